theorem dX11_text_0 : decode cX11_text 0 = .ok (.iload_n 1, 1) := by decide +kernel
theorem dX11_text_1 : decode cX11_text 1 = .ok (.invokestatic 113, 3) := by decide +kernel
theorem dX11_text_4 : decode cX11_text 4 = .ok (.ifCond .eq 9, 3) := by decide +kernel
theorem dX11_text_7 : decode cX11_text 7 = .ok (.iload_n 2, 1) := by decide +kernel
theorem dX11_text_8 : decode cX11_text 8 = .ok (.bipush 90, 2) := by decide +kernel
theorem dX11_text_10 : decode cX11_text 10 = .ok (.if_icmp .le 5, 3) := by decide +kernel
theorem dX11_text_13 : decode cX11_text 13 = .ok (.iconst (-1), 1) := by decide +kernel
theorem dX11_text_14 : decode cX11_text 14 = .ok (.ireturn, 1) := by decide +kernel
theorem dX11_text_15 : decode cX11_text 15 = .ok (.iload_n 2, 1) := by decide +kernel
theorem dX11_text_16 : decode cX11_text 16 = .ok (.ifCond .ge 9, 3) := by decide +kernel
theorem dX11_text_19 : decode cX11_text 19 = .ok (.aload_n 0, 1) := by decide +kernel
theorem dX11_text_20 : decode cX11_text 20 = .ok (.iconst 5, 1) := by decide +kernel
theorem dX11_text_21 : decode cX11_text 21 = .ok (.invokevirtual 106, 3) := by decide +kernel
theorem dX11_text_24 : decode cX11_text 24 = .ok (.ireturn, 1) := by decide +kernel
theorem dX11_text_25 : decode cX11_text 25 = .ok (.aload_n 0, 1) := by decide +kernel
theorem dX11_text_26 : decode cX11_text 26 = .ok (.getfield 16, 3) := by decide +kernel
theorem dX11_text_29 : decode cX11_text 29 = .ok (.iload_n 1, 1) := by decide +kernel
theorem dX11_text_30 : decode cX11_text 30 = .ok (.iload_n 2, 1) := by decide +kernel
theorem dX11_text_31 : decode cX11_text 31 = .ok (.iastore, 1) := by decide +kernel
theorem dX11_text_32 : decode cX11_text 32 = .ok (.iconst 0, 1) := by decide +kernel
theorem dX11_text_33 : decode cX11_text 33 = .ok (.istore_n 3, 1) := by decide +kernel
theorem dX11_text_34 : decode cX11_text 34 = .ok (.iload_n 3, 1) := by decide +kernel
theorem dX11_text_35 : decode cX11_text 35 = .ok (.bipush 90, 2) := by decide +kernel
theorem dX11_text_37 : decode cX11_text 37 = .ok (.if_icmp .ge 22, 3) := by decide +kernel
theorem dX11_text_40 : decode cX11_text 40 = .ok (.aload_n 0, 1) := by decide +kernel
theorem dX11_text_41 : decode cX11_text 41 = .ok (.getfield 19, 3) := by decide +kernel
theorem dX11_text_44 : decode cX11_text 44 = .ok (.bipush 90, 2) := by decide +kernel
theorem dX11_text_46 : decode cX11_text 46 = .ok (.iload_n 1, 1) := by decide +kernel
theorem dX11_text_47 : decode cX11_text 47 = .ok (.imul, 1) := by decide +kernel
theorem dX11_text_48 : decode cX11_text 48 = .ok (.iload_n 3, 1) := by decide +kernel
theorem dX11_text_49 : decode cX11_text 49 = .ok (.iadd, 1) := by decide +kernel
theorem dX11_text_50 : decode cX11_text 50 = .ok (.bipush 32, 2) := by decide +kernel
theorem dX11_text_52 : decode cX11_text 52 = .ok (.iastore, 1) := by decide +kernel
theorem dX11_text_53 : decode cX11_text 53 = .ok (.iinc 3 1, 3) := by decide +kernel
theorem dX11_text_56 : decode cX11_text 56 = .ok (.goto (-22), 3) := by decide +kernel
theorem dX11_text_59 : decode cX11_text 59 = .ok (.iload_n 2, 1) := by decide +kernel
theorem dX11_text_60 : decode cX11_text 60 = .ok (.ireturn, 1) := by decide +kernel
def fX11_text_L34 (p1 : Int32) (p2 : Int32) : Nat → St → Int32 → (St → Int32 → Option (St × Int32)) → Option (St × Int32)
  | 0, _, _, _ => none
  | n + 1, σ4, v5, k => (if 90 ≤ v5 then k σ4 v5 else wr LM σ4 4 ((90 * p1) + v5) 32 (fun σ6 => fX11_text_L34 p1 p2 n σ6 (v5 + 1) k))
def fX11_text (σ : St) (p1 : Int32) (p2 : Int32) : Option (St × Int32) := cl (fX11_isText σ p1) (fun σ1 r2 => (if r2 = 0 then some (σ1, (-1)) else (if p2 ≤ 90 then (if 0 ≤ p2 then wr LM σ1 3 p1 p2 (fun σ3 => fX11_text_L34 p1 p2 10000 σ3 0 (fun σ7 v8 => some (σ7, p2))) else cl (fX11_found σ1 5) (fun σ9 r10 => some (σ9, r10))) else some (σ1, (-1)))))
set_option maxHeartbeats 4000000 in
set_option maxRecDepth 100000 in
theorem ctX11_text (l : Launch) (g : GG) (σ : St) (p1 : Int32) (p2 : Int32) (σ' : St) (r : Int32) (hE : fX11_text σ p1 p2 = some (σ', r)) : MI 25 entM l g yX11_text (Cond.code yX11_text cX11_text 4 (some .int) :: gtbl) (rmD 3) [.ref (g.2.1 0), .int p1, .int p2] σ σ' r := by
  refine mi_i (own := RX11) (lv := [(0, .ref (g.2.1 0)), (1, .int p1), (2, .int p2)]) (by decide) rfl (Nat.le_of_ble_eq_true rfl) rfl (fun p e s m below meth c ls args Q A H0 H locs C hK hA hQ hs hl => ?_)
  have hx := C.1
  have hb := C.2.1
  unfold fX11_text at hE
  refine lv_iload_n hx hb dX11_text_0 rfl (lv_at hl 1 rfl) ?_
  obtain ⟨σ1, r2, hE1, hE⟩ := cl_e hE
  refine x_cis (As := [.int p1]) (rest := []) C hl.1 hK hs hA ⟨Nat.le_refl 0, Nat.le_refl 0⟩ (ctX11_isText l g _ _ _ _ hE1) (cw_X11_113 C ⟨Nat.le_of_ble_eq_true rfl, Nat.le_of_ble_eq_true rfl⟩) rfl rfl (Nat.le_of_ble_eq_true rfl) dX11_text_1 (fun H locs hs => ?_)
  refine lv_if_eq (tgt := 13) hx hb dX11_text_4 (by decide) (fun hc => ?_) (fun hc => ?_)
  · have hE := if_t hc hE
    refine lv_iconst (v := (-1)) hx hb dX11_text_13 (by decide) ?_
    exact hQ hs hE dX11_text_14
  · have hE := if_f hc hE
    refine lv_iload_n hx hb dX11_text_7 rfl (lv_at hl 2 rfl) ?_
    refine lv_bipush (v := 90) hx hb dX11_text_8 (by decide) ?_
    refine lv_icmp_le (tgt := 15) hx hb dX11_text_10 (by decide) (fun hc => ?_) (fun hc => ?_)
    · have hE := if_t hc hE
      refine lv_iload_n hx hb dX11_text_15 rfl (lv_at hl 2 rfl) ?_
      refine lv_if_ge (tgt := 25) hx hb dX11_text_16 (by decide) (fun hc => ?_) (fun hc => ?_)
      · have hE := if_t hc hE
        refine lv_aload_n hx hb dX11_text_25 rfl (lv_at hl 0 rfl) ?_
        refine gf_X11_16_0 C hK hs dX11_text_26 ?_
        refine lv_iload_n hx hb dX11_text_29 rfl (lv_at hl 1 rfl) ?_
        refine lv_iload_n hx hb dX11_text_30 rfl (lv_at hl 2 rfl) ?_
        obtain ⟨hi, σ3, eσ3, hE⟩ := wr_w hE
        refine y_ast layM C hK hs hi eσ3 dX11_text_31 (fun H locs hs => ?_)
        refine lv_iconst (v := 0) hx hb dX11_text_32 (by decide) ?_
        refine lv_istore_n (lv' := [(3, .int 0), (0, .ref (g.2.1 0)), (1, .int p1), (2, .int p2)]) hx hb dX11_text_33 rfl hl (by decide) rfl (fun ls hl => ?_)
        have hL34 : ∀ (n : Nat) (σ4 : St) (v5 : Int32) (k : St → Int32 → Option (St × Int32)), fX11_text_L34 p1 p2 n σ4 v5 k = some (σ', r) → (∀ (σ4 : St) (v5 : Int32) (H : Heap) (locs : List Loc) (ls : Array Slot), HW 25 entM g A H0 H locs σ4 → lv_has ls 4 [(0, .ref (g.2.1 0)), (1, .int p1), (2, .int p2), (3, .int v5)] → k σ4 v5 = some (σ', r) → W p l e (rmD 3) s m args below meth c H locs 0 0 Q (F0 m 59 ls [])) → ∀ (H : Heap) (locs : List Loc) (ls : Array Slot), HW 25 entM g A H0 H locs σ4 → lv_has ls 4 [(0, .ref (g.2.1 0)), (1, .int p1), (2, .int p2), (3, .int v5)] → W p l e (rmD 3) s m args below meth c H locs 0 0 Q (F0 m 34 ls []) := by
          intro n
          induction n with
          | zero =>
            intro σ4 v5 k hE
            rw [fX11_text_L34] at hE
            exact no_e hE
          | succ n ih =>
            intro σ4 v5 k hE hk H locs ls hs hl
            rw [fX11_text_L34] at hE
            refine lv_iload_n hx hb dX11_text_34 rfl (lv_at hl 3 rfl) ?_
            refine lv_bipush (v := 90) hx hb dX11_text_35 (by decide) ?_
            refine lv_icmp_ge (tgt := 59) hx hb dX11_text_37 (by decide) (fun hc => ?_) (fun hc => ?_)
            · have hE := if_t hc hE
              exact hk σ4 v5 _ _ _ hs (lv_sub hl [0, 1, 2, 3] rfl) hE
            · have hE := if_f hc hE
              refine lv_aload_n hx hb dX11_text_40 rfl (lv_at hl 0 rfl) ?_
              refine gf_X11_19_0 C hK hs dX11_text_41 ?_
              refine lv_bipush (v := 90) hx hb dX11_text_44 (by decide) ?_
              refine lv_iload_n hx hb dX11_text_46 rfl (lv_at hl 1 rfl) ?_
              refine lv_imul hx hb dX11_text_47 ?_
              refine lv_iload_n hx hb dX11_text_48 rfl (lv_at hl 3 rfl) ?_
              refine lv_iadd hx hb dX11_text_49 ?_
              refine lv_bipush (v := 32) hx hb dX11_text_50 (by decide) ?_
              obtain ⟨hi, σ6, eσ6, hE⟩ := wr_w hE
              refine y_ast layM C hK hs hi eσ6 dX11_text_52 (fun H locs hs => ?_)
              refine lv_iinc (v := v5 + 1) (lv' := [(3, .int (v5 + 1)), (0, .ref (g.2.1 0)), (1, .int p1), (2, .int p2)]) hx hb dX11_text_53 hl (k := 3) rfl rfl (by decide) rfl (fun ls hl => ?_)
              refine lv_goto (tgt := 34) hx hb dX11_text_56 (by decide) ?_
              exact ih _ _ _ hE hk _ _ _ hs (lv_sub hl [1, 2, 3, 0] rfl)
        refine hL34 _ _ _ _ hE (fun σ7 v8 H locs ls hs hl hE => ?_) H locs ls hs (lv_sub hl [1, 2, 3, 0] rfl)
        refine lv_iload_n hx hb dX11_text_59 rfl (lv_at hl 2 rfl) ?_
        exact hQ hs hE dX11_text_60
      · have hE := if_f hc hE
        refine lv_aload_n hx hb dX11_text_19 rfl (lv_at hl 0 rfl) ?_
        refine lv_iconst (v := 5) hx hb dX11_text_20 (by decide) ?_
        obtain ⟨σ9, r10, hE1, hE⟩ := cl_e hE
        refine x_civ (As := [.int 5]) (rest := []) C hl.1 hK hs hA ⟨Nat.le_refl 0, Nat.le_refl 0⟩ (ctX11_found l g _ _ _ _ hE1) (cw_X11_106 C ⟨Nat.le_of_ble_eq_true rfl, Nat.le_of_ble_eq_true rfl⟩) (hs.recv hK 0 (by decide) rfl rfl) rfl rfl (Nat.le_of_ble_eq_true rfl) dX11_text_21 (fun H locs hs => ?_)
        exact hQ hs hE dX11_text_24
    · have hE := if_f hc hE
      refine lv_iconst (v := (-1)) hx hb dX11_text_13 (by decide) ?_
      exact hQ hs hE dX11_text_14
theorem dX11_put_0 : decode cX11_put 0 = .ok (.iload_n 1, 1) := by decide +kernel
theorem dX11_put_1 : decode cX11_put 1 = .ok (.invokestatic 113, 3) := by decide +kernel
theorem dX11_put_4 : decode cX11_put 4 = .ok (.ifCond .ne 5, 3) := by decide +kernel
theorem dX11_put_7 : decode cX11_put 7 = .ok (.iconst (-1), 1) := by decide +kernel
theorem dX11_put_8 : decode cX11_put 8 = .ok (.ireturn, 1) := by decide +kernel
theorem dX11_put_9 : decode cX11_put 9 = .ok (.aload_n 0, 1) := by decide +kernel
theorem dX11_put_10 : decode cX11_put 10 = .ok (.getfield 16, 3) := by decide +kernel
theorem dX11_put_13 : decode cX11_put 13 = .ok (.iload_n 1, 1) := by decide +kernel
theorem dX11_put_14 : decode cX11_put 14 = .ok (.iaload, 1) := by decide +kernel
theorem dX11_put_15 : decode cX11_put 15 = .ok (.ifCond .ge 9, 3) := by decide +kernel
theorem dX11_put_18 : decode cX11_put 18 = .ok (.aload_n 0, 1) := by decide +kernel
theorem dX11_put_19 : decode cX11_put 19 = .ok (.iconst 1, 1) := by decide +kernel
theorem dX11_put_20 : decode cX11_put 20 = .ok (.invokevirtual 106, 3) := by decide +kernel
theorem dX11_put_23 : decode cX11_put 23 = .ok (.ireturn, 1) := by decide +kernel
theorem dX11_put_24 : decode cX11_put 24 = .ok (.iload_n 2, 1) := by decide +kernel
theorem dX11_put_25 : decode cX11_put 25 = .ok (.i2l, 1) := by decide +kernel
theorem dX11_put_26 : decode cX11_put 26 = .ok (.lconst 0, 1) := by decide +kernel
theorem dX11_put_27 : decode cX11_put 27 = .ok (.aload_n 0, 1) := by decide +kernel
theorem dX11_put_28 : decode cX11_put 28 = .ok (.getfield 16, 3) := by decide +kernel
theorem dX11_put_31 : decode cX11_put 31 = .ok (.iload_n 1, 1) := by decide +kernel
theorem dX11_put_32 : decode cX11_put 32 = .ok (.iaload, 1) := by decide +kernel
theorem dX11_put_33 : decode cX11_put 33 = .ok (.iconst 1, 1) := by decide +kernel
theorem dX11_put_34 : decode cX11_put 34 = .ok (.isub, 1) := by decide +kernel
theorem dX11_put_35 : decode cX11_put 35 = .ok (.i2l, 1) := by decide +kernel
theorem dX11_put_36 : decode cX11_put 36 = .ok (.invokestatic 96, 3) := by decide +kernel
theorem dX11_put_39 : decode cX11_put 39 = .ok (.ifCond .ne 9, 3) := by decide +kernel
theorem dX11_put_42 : decode cX11_put 42 = .ok (.aload_n 0, 1) := by decide +kernel
theorem dX11_put_43 : decode cX11_put 43 = .ok (.iconst 2, 1) := by decide +kernel
theorem dX11_put_44 : decode cX11_put 44 = .ok (.invokevirtual 106, 3) := by decide +kernel
theorem dX11_put_47 : decode cX11_put 47 = .ok (.ireturn, 1) := by decide +kernel
theorem dX11_put_48 : decode cX11_put 48 = .ok (.aload_n 0, 1) := by decide +kernel
theorem dX11_put_49 : decode cX11_put 49 = .ok (.getfield 19, 3) := by decide +kernel
theorem dX11_put_52 : decode cX11_put 52 = .ok (.bipush 90, 2) := by decide +kernel
theorem dX11_put_54 : decode cX11_put 54 = .ok (.iload_n 1, 1) := by decide +kernel
theorem dX11_put_55 : decode cX11_put 55 = .ok (.imul, 1) := by decide +kernel
theorem dX11_put_56 : decode cX11_put 56 = .ok (.iload_n 2, 1) := by decide +kernel
theorem dX11_put_57 : decode cX11_put 57 = .ok (.iadd, 1) := by decide +kernel
theorem dX11_put_58 : decode cX11_put 58 = .ok (.iaload, 1) := by decide +kernel
theorem dX11_put_59 : decode cX11_put 59 = .ok (.istore 4, 2) := by decide +kernel
theorem dX11_put_61 : decode cX11_put 61 = .ok (.aload_n 0, 1) := by decide +kernel
theorem dX11_put_62 : decode cX11_put 62 = .ok (.getfield 19, 3) := by decide +kernel
theorem dX11_put_65 : decode cX11_put 65 = .ok (.bipush 90, 2) := by decide +kernel
theorem dX11_put_67 : decode cX11_put 67 = .ok (.iload_n 1, 1) := by decide +kernel
theorem dX11_put_68 : decode cX11_put 68 = .ok (.imul, 1) := by decide +kernel
theorem dX11_put_69 : decode cX11_put 69 = .ok (.iload_n 2, 1) := by decide +kernel
theorem dX11_put_70 : decode cX11_put 70 = .ok (.iadd, 1) := by decide +kernel
theorem dX11_put_71 : decode cX11_put 71 = .ok (.iload_n 3, 1) := by decide +kernel
theorem dX11_put_72 : decode cX11_put 72 = .ok (.i2b, 1) := by decide +kernel
theorem dX11_put_73 : decode cX11_put 73 = .ok (.iastore, 1) := by decide +kernel
theorem dX11_put_74 : decode cX11_put 74 = .ok (.iload 4, 2) := by decide +kernel
theorem dX11_put_76 : decode cX11_put 76 = .ok (.sipush 1000, 3) := by decide +kernel
theorem dX11_put_79 : decode cX11_put 79 = .ok (.iadd, 1) := by decide +kernel
theorem dX11_put_80 : decode cX11_put 80 = .ok (.ireturn, 1) := by decide +kernel
def fX11_put (σ : St) (p1 : Int32) (p2 : Int32) (p3 : Int32) : Option (St × Int32) := cl (fX11_isText σ p1) (fun σ1 r2 => (if r2 = 0 then some (σ1, (-1)) else rd LM σ1 3 p1 (fun x3 => (if 0 ≤ x3 then rd LM σ1 3 p1 (fun x4 => cl (fX11_in σ1 (p2.toInt64) 0 ((x4 - 1).toInt64)) (fun σ5 r6 => (if r6 = 0 then cl (fX11_found σ5 2) (fun σ9 r10 => some (σ9, r10)) else rd LM σ5 4 ((90 * p1) + p2) (fun x7 => wr LM σ5 4 ((90 * p1) + p2) (p3.toInt8.toInt32) (fun σ8 => some (σ8, x7 + 1000)))))) else cl (fX11_found σ1 1) (fun σ11 r12 => some (σ11, r12))))))
set_option maxHeartbeats 4000000 in
set_option maxRecDepth 100000 in
theorem ctX11_put (l : Launch) (g : GG) (σ : St) (p1 : Int32) (p2 : Int32) (p3 : Int32) (σ' : St) (r : Int32) (hE : fX11_put σ p1 p2 p3 = some (σ', r)) : MI 25 entM l g yX11_put (Cond.code yX11_put cX11_put 5 (some .int) :: gtbl) (rmD 3) [.ref (g.2.1 0), .int p1, .int p2, .int p3] σ σ' r := by
  refine mi_i (own := RX11) (lv := [(0, .ref (g.2.1 0)), (1, .int p1), (2, .int p2), (3, .int p3)]) (by decide) rfl (Nat.le_of_ble_eq_true rfl) rfl (fun p e s m below meth c ls args Q A H0 H locs C hK hA hQ hs hl => ?_)
  have hx := C.1
  have hb := C.2.1
  unfold fX11_put at hE
  refine lv_iload_n hx hb dX11_put_0 rfl (lv_at hl 1 rfl) ?_
  obtain ⟨σ1, r2, hE1, hE⟩ := cl_e hE
  refine x_cis (As := [.int p1]) (rest := []) C hl.1 hK hs hA ⟨Nat.le_refl 0, Nat.le_refl 0⟩ (ctX11_isText l g _ _ _ _ hE1) (cw_X11_113 C ⟨Nat.le_of_ble_eq_true rfl, Nat.le_of_ble_eq_true rfl⟩) rfl rfl (Nat.le_of_ble_eq_true rfl) dX11_put_1 (fun H locs hs => ?_)
  refine lv_if_ne (tgt := 9) hx hb dX11_put_4 (by decide) (fun hc => ?_) (fun hc => ?_)
  · have hE := if_f hc hE
    refine lv_aload_n hx hb dX11_put_9 rfl (lv_at hl 0 rfl) ?_
    refine gf_X11_16_0 C hK hs dX11_put_10 ?_
    refine lv_iload_n hx hb dX11_put_13 rfl (lv_at hl 1 rfl) ?_
    obtain ⟨hi, x3, ex3, hE⟩ := rd_w hE
    refine y_ald layM C hK hs hi ex3 dX11_put_14 ?_
    refine lv_if_ge (tgt := 24) hx hb dX11_put_15 (by decide) (fun hc => ?_) (fun hc => ?_)
    · have hE := if_t hc hE
      refine lv_iload_n hx hb dX11_put_24 rfl (lv_at hl 2 rfl) ?_
      refine lv_i2l (v := p2.toInt64) hx hb dX11_put_25 rfl ?_
      refine lv_lconst (v := 0) hx hb dX11_put_26 (by decide) ?_
      refine lv_aload_n hx hb dX11_put_27 rfl (lv_at hl 0 rfl) ?_
      refine gf_X11_16_0 C hK hs dX11_put_28 ?_
      refine lv_iload_n hx hb dX11_put_31 rfl (lv_at hl 1 rfl) ?_
      obtain ⟨hi, x4, ex4, hE⟩ := rd_w hE
      refine y_ald layM C hK hs hi ex4 dX11_put_32 ?_
      refine lv_iconst (v := 1) hx hb dX11_put_33 (by decide) ?_
      refine lv_isub hx hb dX11_put_34 ?_
      refine lv_i2l (v := (x4 - 1).toInt64) hx hb dX11_put_35 rfl ?_
      obtain ⟨σ5, r6, hE1, hE⟩ := cl_e hE
      refine x_cis (As := [.long (p2.toInt64), .long 0, .long ((x4 - 1).toInt64)]) (rest := []) C hl.1 hK hs hA ⟨Nat.le_refl 0, Nat.le_refl 0⟩ (ctX11_in l g _ _ _ _ _ _ hE1) (cw_X11_96 C ⟨Nat.le_of_ble_eq_true rfl, Nat.le_of_ble_eq_true rfl⟩) rfl rfl (Nat.le_of_ble_eq_true rfl) dX11_put_36 (fun H locs hs => ?_)
      refine lv_if_ne (tgt := 48) hx hb dX11_put_39 (by decide) (fun hc => ?_) (fun hc => ?_)
      · have hE := if_f hc hE
        refine lv_aload_n hx hb dX11_put_48 rfl (lv_at hl 0 rfl) ?_
        refine gf_X11_19_0 C hK hs dX11_put_49 ?_
        refine lv_bipush (v := 90) hx hb dX11_put_52 (by decide) ?_
        refine lv_iload_n hx hb dX11_put_54 rfl (lv_at hl 1 rfl) ?_
        refine lv_imul hx hb dX11_put_55 ?_
        refine lv_iload_n hx hb dX11_put_56 rfl (lv_at hl 2 rfl) ?_
        refine lv_iadd hx hb dX11_put_57 ?_
        obtain ⟨hi, x7, ex7, hE⟩ := rd_w hE
        refine y_ald layM C hK hs hi ex7 dX11_put_58 ?_
        refine lv_istore (lv' := [(4, .int x7), (0, .ref (g.2.1 0)), (1, .int p1), (2, .int p2), (3, .int p3)]) hx hb dX11_put_59 hl (by decide) rfl (fun ls hl => ?_)
        refine lv_aload_n hx hb dX11_put_61 rfl (lv_at hl 1 rfl) ?_
        refine gf_X11_19_0 C hK hs dX11_put_62 ?_
        refine lv_bipush (v := 90) hx hb dX11_put_65 (by decide) ?_
        refine lv_iload_n hx hb dX11_put_67 rfl (lv_at hl 2 rfl) ?_
        refine lv_imul hx hb dX11_put_68 ?_
        refine lv_iload_n hx hb dX11_put_69 rfl (lv_at hl 3 rfl) ?_
        refine lv_iadd hx hb dX11_put_70 ?_
        refine lv_iload_n hx hb dX11_put_71 rfl (lv_at hl 4 rfl) ?_
        refine lv_i2b (v := p3.toInt8.toInt32) hx hb dX11_put_72 rfl ?_
        obtain ⟨hi, σ8, eσ8, hE⟩ := wr_w hE
        refine y_ast layM C hK hs hi eσ8 dX11_put_73 (fun H locs hs => ?_)
        refine lv_iload hx hb dX11_put_74 (lv_at hl 0 rfl) ?_
        refine lv_sipush (v := 1000) hx hb dX11_put_76 (by decide) ?_
        refine lv_iadd hx hb dX11_put_79 ?_
        exact hQ hs hE dX11_put_80
      · have hE := if_t hc hE
        refine lv_aload_n hx hb dX11_put_42 rfl (lv_at hl 0 rfl) ?_
        refine lv_iconst (v := 2) hx hb dX11_put_43 (by decide) ?_
        obtain ⟨σ9, r10, hE1, hE⟩ := cl_e hE
        refine x_civ (As := [.int 2]) (rest := []) C hl.1 hK hs hA ⟨Nat.le_refl 0, Nat.le_refl 0⟩ (ctX11_found l g _ _ _ _ hE1) (cw_X11_106 C ⟨Nat.le_of_ble_eq_true rfl, Nat.le_of_ble_eq_true rfl⟩) (hs.recv hK 0 (by decide) rfl rfl) rfl rfl (Nat.le_of_ble_eq_true rfl) dX11_put_44 (fun H locs hs => ?_)
        exact hQ hs hE dX11_put_47
    · have hE := if_f hc hE
      refine lv_aload_n hx hb dX11_put_18 rfl (lv_at hl 0 rfl) ?_
      refine lv_iconst (v := 1) hx hb dX11_put_19 (by decide) ?_
      obtain ⟨σ11, r12, hE1, hE⟩ := cl_e hE
      refine x_civ (As := [.int 1]) (rest := []) C hl.1 hK hs hA ⟨Nat.le_refl 0, Nat.le_refl 0⟩ (ctX11_found l g _ _ _ _ hE1) (cw_X11_106 C ⟨Nat.le_of_ble_eq_true rfl, Nat.le_of_ble_eq_true rfl⟩) (hs.recv hK 0 (by decide) rfl rfl) rfl rfl (Nat.le_of_ble_eq_true rfl) dX11_put_20 (fun H locs hs => ?_)
      exact hQ hs hE dX11_put_23
  · have hE := if_t hc hE
    refine lv_iconst (v := (-1)) hx hb dX11_put_7 (by decide) ?_
    exact hQ hs hE dX11_put_8
theorem dX11_copies_0 : decode cX11_copies 0 = .ok (.iconst 0, 1) := by decide +kernel
theorem dX11_copies_1 : decode cX11_copies 1 = .ok (.istore 5, 2) := by decide +kernel
theorem dX11_copies_3 : decode cX11_copies 3 = .ok (.iload 5, 2) := by decide +kernel
theorem dX11_copies_5 : decode cX11_copies 5 = .ok (.iload 4, 2) := by decide +kernel
theorem dX11_copies_7 : decode cX11_copies 7 = .ok (.if_icmp .ge 21, 3) := by decide +kernel
theorem dX11_copies_10 : decode cX11_copies 10 = .ok (.aload_n 2, 1) := by decide +kernel
theorem dX11_copies_11 : decode cX11_copies 11 = .ok (.iload_n 3, 1) := by decide +kernel
theorem dX11_copies_12 : decode cX11_copies 12 = .ok (.iload 5, 2) := by decide +kernel
theorem dX11_copies_14 : decode cX11_copies 14 = .ok (.iadd, 1) := by decide +kernel
theorem dX11_copies_15 : decode cX11_copies 15 = .ok (.aload_n 0, 1) := by decide +kernel
theorem dX11_copies_16 : decode cX11_copies 16 = .ok (.iload_n 1, 1) := by decide +kernel
theorem dX11_copies_17 : decode cX11_copies 17 = .ok (.iload 5, 2) := by decide +kernel
theorem dX11_copies_19 : decode cX11_copies 19 = .ok (.iadd, 1) := by decide +kernel
theorem dX11_copies_20 : decode cX11_copies 20 = .ok (.iaload, 1) := by decide +kernel
theorem dX11_copies_21 : decode cX11_copies 21 = .ok (.iastore, 1) := by decide +kernel
theorem dX11_copies_22 : decode cX11_copies 22 = .ok (.iinc 5 1, 3) := by decide +kernel
theorem dX11_copies_25 : decode cX11_copies 25 = .ok (.goto (-22), 3) := by decide +kernel
theorem dX11_copies_28 : decode cX11_copies 28 = .ok (.return_, 1) := by decide +kernel
def fX11_copies_L3 (p0 : Nat) (p1 : Int32) (p2 : Nat) (p3 : Int32) (p4 : Int32) : Nat → St → Int32 → (St → Int32 → Option (St × Unit)) → Option (St × Unit)
  | 0, _, _, _ => none
  | n + 1, σ1, v2, k => (if p4 ≤ v2 then k σ1 v2 else rd LM σ1 p0 (p1 + v2) (fun x3 => wr LM σ1 p2 (p3 + v2) x3 (fun σ4 => fX11_copies_L3 p0 p1 p2 p3 p4 n σ4 (v2 + 1) k)))
def fX11_copies (σ : St) (p0 : Nat) (p1 : Int32) (p2 : Nat) (p3 : Int32) (p4 : Int32) : Option (St × Unit) := fX11_copies_L3 p0 p1 p2 p3 p4 10000 σ 0 (fun σ5 v6 => some (σ5, ()))
set_option maxHeartbeats 4000000 in
set_option maxRecDepth 100000 in
theorem ctX11_copies (l : Launch) (g : GG) (σ : St) (p0 : Nat) (p1 : Int32) (p2 : Nat) (p3 : Int32) (p4 : Int32) (σ' : St) (r : Unit) (hE : fX11_copies σ p0 p1 p2 p3 p4 = some (σ', r)) : MV 25 entM l g yX11_copies (Cond.code yX11_copies cX11_copies 6 none :: gtbl) (rmD 1) [.ref (g.2.1 p0), .int p1, .ref (g.2.1 p2), .int p3, .int p4] σ σ' := by
  refine mi_v (own := RX11) (lv := [(0, .ref (g.2.1 p0)), (1, .int p1), (2, .ref (g.2.1 p2)), (3, .int p3), (4, .int p4)]) (by decide) rfl (Nat.le_of_ble_eq_true rfl) rfl (fun p e s m below meth c ls args Q A H0 H locs C hK hA hQ hs hl => ?_)
  have hx := C.1
  have hb := C.2.1
  unfold fX11_copies at hE
  refine lv_iconst (v := 0) hx hb dX11_copies_0 (by decide) ?_
  refine lv_istore (lv' := [(5, .int 0), (0, .ref (g.2.1 p0)), (1, .int p1), (2, .ref (g.2.1 p2)), (3, .int p3), (4, .int p4)]) hx hb dX11_copies_1 hl (by decide) rfl (fun ls hl => ?_)
  have hL3 : ∀ (n : Nat) (σ1 : St) (v2 : Int32) (k : St → Int32 → Option (St × Unit)), fX11_copies_L3 p0 p1 p2 p3 p4 n σ1 v2 k = some (σ', r) → (∀ (σ1 : St) (v2 : Int32) (H : Heap) (locs : List Loc) (ls : Array Slot), HW 25 entM g A H0 H locs σ1 → lv_has ls 6 [(0, .ref (g.2.1 p0)), (1, .int p1), (2, .ref (g.2.1 p2)), (3, .int p3), (4, .int p4), (5, .int v2)] → k σ1 v2 = some (σ', r) → W p l e (rmD 1) s m args below meth c H locs 0 0 Q (F0 m 28 ls [])) → ∀ (H : Heap) (locs : List Loc) (ls : Array Slot), HW 25 entM g A H0 H locs σ1 → lv_has ls 6 [(0, .ref (g.2.1 p0)), (1, .int p1), (2, .ref (g.2.1 p2)), (3, .int p3), (4, .int p4), (5, .int v2)] → W p l e (rmD 1) s m args below meth c H locs 0 0 Q (F0 m 3 ls []) := by
    intro n
    induction n with
    | zero =>
      intro σ1 v2 k hE
      rw [fX11_copies_L3] at hE
      exact no_e hE
    | succ n ih =>
      intro σ1 v2 k hE hk H locs ls hs hl
      rw [fX11_copies_L3] at hE
      refine lv_iload hx hb dX11_copies_3 (lv_at hl 5 rfl) ?_
      refine lv_iload hx hb dX11_copies_5 (lv_at hl 4 rfl) ?_
      refine lv_icmp_ge (tgt := 28) hx hb dX11_copies_7 (by decide) (fun hc => ?_) (fun hc => ?_)
      · have hE := if_t hc hE
        exact hk σ1 v2 _ _ _ hs (lv_sub hl [0, 1, 2, 3, 4, 5] rfl) hE
      · have hE := if_f hc hE
        refine lv_aload_n hx hb dX11_copies_10 rfl (lv_at hl 2 rfl) ?_
        refine lv_iload_n hx hb dX11_copies_11 rfl (lv_at hl 3 rfl) ?_
        refine lv_iload hx hb dX11_copies_12 (lv_at hl 5 rfl) ?_
        refine lv_iadd hx hb dX11_copies_14 ?_
        refine lv_aload_n hx hb dX11_copies_15 rfl (lv_at hl 0 rfl) ?_
        refine lv_iload_n hx hb dX11_copies_16 rfl (lv_at hl 1 rfl) ?_
        refine lv_iload hx hb dX11_copies_17 (lv_at hl 5 rfl) ?_
        refine lv_iadd hx hb dX11_copies_19 ?_
        obtain ⟨hi, x3, ex3, hE⟩ := rd_w hE
        refine y_ald layM C hK hs hi ex3 dX11_copies_20 ?_
        obtain ⟨hi, σ4, eσ4, hE⟩ := wr_w hE
        refine y_ast layM C hK hs hi eσ4 dX11_copies_21 (fun H locs hs => ?_)
        refine lv_iinc (v := v2 + 1) (lv' := [(5, .int (v2 + 1)), (0, .ref (g.2.1 p0)), (1, .int p1), (2, .ref (g.2.1 p2)), (3, .int p3), (4, .int p4)]) hx hb dX11_copies_22 hl (k := 5) rfl rfl (by decide) rfl (fun ls hl => ?_)
        refine lv_goto (tgt := 3) hx hb dX11_copies_25 (by decide) ?_
        exact ih _ _ _ hE hk _ _ _ hs (lv_sub hl [1, 2, 3, 4, 5, 0] rfl)
  refine hL3 _ _ _ _ hE (fun σ5 v6 H locs ls hs hl hE => ?_) H locs ls hs (lv_sub hl [1, 2, 3, 4, 5, 0] rfl)
  exact hQ hs hE dX11_copies_28
theorem dX11_kindOf_0 : decode cX11_kindOf 0 = .ok (.iload_n 0, 1) := by decide +kernel
theorem dX11_kindOf_1 : decode cX11_kindOf 1 = .ok (.lookupswitch 71 #[(66, 65), (72, 59), (73, 67), (77, 63), (83, 61), (87, 69)], 59) := by decide +kernel
theorem dX11_kindOf_60 : decode cX11_kindOf 60 = .ok (.iconst 0, 1) := by decide +kernel
theorem dX11_kindOf_61 : decode cX11_kindOf 61 = .ok (.ireturn, 1) := by decide +kernel
theorem dX11_kindOf_62 : decode cX11_kindOf 62 = .ok (.iconst 1, 1) := by decide +kernel
theorem dX11_kindOf_63 : decode cX11_kindOf 63 = .ok (.ireturn, 1) := by decide +kernel
theorem dX11_kindOf_64 : decode cX11_kindOf 64 = .ok (.iconst 2, 1) := by decide +kernel
theorem dX11_kindOf_65 : decode cX11_kindOf 65 = .ok (.ireturn, 1) := by decide +kernel
theorem dX11_kindOf_66 : decode cX11_kindOf 66 = .ok (.iconst 3, 1) := by decide +kernel
theorem dX11_kindOf_67 : decode cX11_kindOf 67 = .ok (.ireturn, 1) := by decide +kernel
theorem dX11_kindOf_68 : decode cX11_kindOf 68 = .ok (.iconst 4, 1) := by decide +kernel
theorem dX11_kindOf_69 : decode cX11_kindOf 69 = .ok (.ireturn, 1) := by decide +kernel
theorem dX11_kindOf_70 : decode cX11_kindOf 70 = .ok (.iconst 5, 1) := by decide +kernel
theorem dX11_kindOf_71 : decode cX11_kindOf 71 = .ok (.ireturn, 1) := by decide +kernel
theorem dX11_kindOf_72 : decode cX11_kindOf 72 = .ok (.bipush (-9), 2) := by decide +kernel
theorem dX11_kindOf_74 : decode cX11_kindOf 74 = .ok (.ireturn, 1) := by decide +kernel
def fX11_kindOf (σ : St) (p0 : Int32) : Option (St × Int32) := (if p0 = 66 then some (σ, 3) else (if p0 = 72 then some (σ, 0) else (if p0 = 73 then some (σ, 4) else (if p0 = 77 then some (σ, 2) else (if p0 = 83 then some (σ, 1) else (if p0 = 87 then some (σ, 5) else some (σ, (-9))))))))
set_option maxHeartbeats 4000000 in
set_option maxRecDepth 100000 in
theorem ctX11_kindOf (l : Launch) (g : GG) (σ : St) (p0 : Int32) (σ' : St) (r : Int32) (hE : fX11_kindOf σ p0 = some (σ', r)) : MI 25 entM l g yX11_kindOf (Cond.code yX11_kindOf cX11_kindOf 1 (some .int) :: gtbl) (rmD 1) [.int p0] σ σ' r := by
  refine mi_i (own := RX11) (lv := [(0, .int p0)]) (by decide) rfl (Nat.le_of_ble_eq_true rfl) rfl (fun p e s m below meth c ls args Q A H0 H locs C hK hA hQ hs hl => ?_)
  have hx := C.1
  have hb := C.2.1
  unfold fX11_kindOf at hE
  refine lv_iload_n hx hb dX11_kindOf_0 rfl (lv_at hl 0 rfl) ?_
  by_cases hn66 : p0 = 66
  · have hE := if_t hn66 hE
    refine lv_lookup (off := 65) (tgt := 66) hx hb dX11_kindOf_1 (by decide) (by rw [hn66]; decide) (by decide) ?_
    refine lv_iconst (v := 3) hx hb dX11_kindOf_66 (by decide) ?_
    exact hQ hs hE dX11_kindOf_67
  have hE := if_f hn66 hE
  by_cases hn72 : p0 = 72
  · have hE := if_t hn72 hE
    refine lv_lookup (off := 59) (tgt := 60) hx hb dX11_kindOf_1 (by decide) (by rw [hn72]; decide) (by decide) ?_
    refine lv_iconst (v := 0) hx hb dX11_kindOf_60 (by decide) ?_
    exact hQ hs hE dX11_kindOf_61
  have hE := if_f hn72 hE
  by_cases hn73 : p0 = 73
  · have hE := if_t hn73 hE
    refine lv_lookup (off := 67) (tgt := 68) hx hb dX11_kindOf_1 (by decide) (by rw [hn73]; decide) (by decide) ?_
    refine lv_iconst (v := 4) hx hb dX11_kindOf_68 (by decide) ?_
    exact hQ hs hE dX11_kindOf_69
  have hE := if_f hn73 hE
  by_cases hn77 : p0 = 77
  · have hE := if_t hn77 hE
    refine lv_lookup (off := 63) (tgt := 64) hx hb dX11_kindOf_1 (by decide) (by rw [hn77]; decide) (by decide) ?_
    refine lv_iconst (v := 2) hx hb dX11_kindOf_64 (by decide) ?_
    exact hQ hs hE dX11_kindOf_65
  have hE := if_f hn77 hE
  by_cases hn83 : p0 = 83
  · have hE := if_t hn83 hE
    refine lv_lookup (off := 61) (tgt := 62) hx hb dX11_kindOf_1 (by decide) (by rw [hn83]; decide) (by decide) ?_
    refine lv_iconst (v := 1) hx hb dX11_kindOf_62 (by decide) ?_
    exact hQ hs hE dX11_kindOf_63
  have hE := if_f hn83 hE
  by_cases hn87 : p0 = 87
  · have hE := if_t hn87 hE
    refine lv_lookup (off := 69) (tgt := 70) hx hb dX11_kindOf_1 (by decide) (by rw [hn87]; decide) (by decide) ?_
    refine lv_iconst (v := 5) hx hb dX11_kindOf_70 (by decide) ?_
    exact hQ hs hE dX11_kindOf_71
  have hE := if_f hn87 hE
  refine lv_lookup (off := 71) (tgt := 72) hx hb dX11_kindOf_1 (by decide) (sw_lc (sw_n 66 hn66 (by decide)) (sw_lc (sw_n 72 hn72 (by decide)) (sw_lc (sw_n 73 hn73 (by decide)) (sw_lc (sw_n 77 hn77 (by decide)) (sw_lc (sw_n 83 hn83 (by decide)) (sw_lc (sw_n 87 hn87 (by decide)) rfl)))))) (by decide) ?_
  refine lv_bipush (v := (-9)) hx hb dX11_kindOf_72 (by decide) ?_
  exact hQ hs hE dX11_kindOf_74
theorem dX11_here_0 : decode cX11_here 0 = .ok (.aload_n 0, 1) := by decide +kernel
theorem dX11_here_1 : decode cX11_here 1 = .ok (.getfield 116, 3) := by decide +kernel
theorem dX11_here_4 : decode cX11_here 4 = .ok (.aload_n 0, 1) := by decide +kernel
theorem dX11_here_5 : decode cX11_here 5 = .ok (.getfield 16, 3) := by decide +kernel
theorem dX11_here_8 : decode cX11_here 8 = .ok (.iload_n 1, 1) := by decide +kernel
theorem dX11_here_9 : decode cX11_here 9 = .ok (.iaload, 1) := by decide +kernel
theorem dX11_here_10 : decode cX11_here 10 = .ok (.if_icmp .ge 20, 3) := by decide +kernel
theorem dX11_here_13 : decode cX11_here 13 = .ok (.aload_n 0, 1) := by decide +kernel
theorem dX11_here_14 : decode cX11_here 14 = .ok (.getfield 19, 3) := by decide +kernel
theorem dX11_here_17 : decode cX11_here 17 = .ok (.bipush 90, 2) := by decide +kernel
theorem dX11_here_19 : decode cX11_here 19 = .ok (.iload_n 1, 1) := by decide +kernel
theorem dX11_here_20 : decode cX11_here 20 = .ok (.imul, 1) := by decide +kernel
theorem dX11_here_21 : decode cX11_here 21 = .ok (.aload_n 0, 1) := by decide +kernel
theorem dX11_here_22 : decode cX11_here 22 = .ok (.getfield 116, 3) := by decide +kernel
theorem dX11_here_25 : decode cX11_here 25 = .ok (.iadd, 1) := by decide +kernel
theorem dX11_here_26 : decode cX11_here 26 = .ok (.iaload, 1) := by decide +kernel
theorem dX11_here_27 : decode cX11_here 27 = .ok (.goto 6, 3) := by decide +kernel
theorem dX11_here_30 : decode cX11_here 30 = .ok (.sipush (-1000), 3) := by decide +kernel
theorem dX11_here_33 : decode cX11_here 33 = .ok (.ireturn, 1) := by decide +kernel
def fX11_here (σ : St) (p1 : Int32) : Option (St × Int32) := rd LM σ 3 p1 (fun x1 => (if x1 ≤ (σ.1 0 22) then some (σ, (-1000)) else rd LM σ 4 ((90 * p1) + (σ.1 0 22)) (fun x2 => some (σ, x2))))
set_option maxHeartbeats 4000000 in
set_option maxRecDepth 100000 in
theorem ctX11_here (l : Launch) (g : GG) (σ : St) (p1 : Int32) (σ' : St) (r : Int32) (hE : fX11_here σ p1 = some (σ', r)) : MI 25 entM l g yX11_here (Cond.code yX11_here cX11_here 2 (some .int) :: gtbl) (rmD 1) [.ref (g.2.1 0), .int p1] σ σ' r := by
  refine mi_i (own := RX11) (lv := [(0, .ref (g.2.1 0)), (1, .int p1)]) (by decide) rfl (Nat.le_of_ble_eq_true rfl) rfl (fun p e s m below meth c ls args Q A H0 H locs C hK hA hQ hs hl => ?_)
  have hx := C.1
  have hb := C.2.1
  unfold fX11_here at hE
  refine lv_aload_n hx hb dX11_here_0 rfl (lv_at hl 0 rfl) ?_
  refine gf_X11_116_0 C hK hs dX11_here_1 ?_
  refine lv_aload_n hx hb dX11_here_4 rfl (lv_at hl 0 rfl) ?_
  refine gf_X11_16_0 C hK hs dX11_here_5 ?_
  refine lv_iload_n hx hb dX11_here_8 rfl (lv_at hl 1 rfl) ?_
  obtain ⟨hi, x1, ex1, hE⟩ := rd_w hE
  refine y_ald layM C hK hs hi ex1 dX11_here_9 ?_
  refine lv_icmp_ge (tgt := 30) hx hb dX11_here_10 (by decide) (fun hc => ?_) (fun hc => ?_)
  · have hE := if_t hc hE
    refine lv_sipush (v := (-1000)) hx hb dX11_here_30 (by decide) ?_
    exact hQ hs hE dX11_here_33
  · have hE := if_f hc hE
    refine lv_aload_n hx hb dX11_here_13 rfl (lv_at hl 0 rfl) ?_
    refine gf_X11_19_0 C hK hs dX11_here_14 ?_
    refine lv_bipush (v := 90) hx hb dX11_here_17 (by decide) ?_
    refine lv_iload_n hx hb dX11_here_19 rfl (lv_at hl 1 rfl) ?_
    refine lv_imul hx hb dX11_here_20 ?_
    refine lv_aload_n hx hb dX11_here_21 rfl (lv_at hl 0 rfl) ?_
    refine gf_X11_116_0 C hK hs dX11_here_22 ?_
    refine lv_iadd hx hb dX11_here_25 ?_
    obtain ⟨hi, x2, ex2, hE⟩ := rd_w hE
    refine y_ald layM C hK hs hi ex2 dX11_here_26 ?_
    refine lv_goto (tgt := 33) hx hb dX11_here_27 (by decide) ?_
    exact hQ hs hE dX11_here_33
theorem dX11_figure_0 : decode cX11_figure 0 = .ok (.aload_n 0, 1) := by decide +kernel
theorem dX11_figure_1 : decode cX11_figure 1 = .ok (.iload_n 1, 1) := by decide +kernel
theorem dX11_figure_2 : decode cX11_figure 2 = .ok (.invokevirtual 119, 3) := by decide +kernel
theorem dX11_figure_5 : decode cX11_figure 5 = .ok (.bipush 48, 2) := by decide +kernel
theorem dX11_figure_7 : decode cX11_figure 7 = .ok (.isub, 1) := by decide +kernel
theorem dX11_figure_8 : decode cX11_figure 8 = .ok (.i2l, 1) := by decide +kernel
theorem dX11_figure_9 : decode cX11_figure 9 = .ok (.iload_n 2, 1) := by decide +kernel
theorem dX11_figure_10 : decode cX11_figure 10 = .ok (.i2l, 1) := by decide +kernel
theorem dX11_figure_11 : decode cX11_figure 11 = .ok (.ldc2_w 122, 3) := by decide +kernel
theorem dX11_figure_14 : decode cX11_figure 14 = .ok (.invokestatic 96, 3) := by decide +kernel
theorem dX11_figure_17 : decode cX11_figure 17 = .ok (.istore_n 3, 1) := by decide +kernel
theorem dX11_figure_18 : decode cX11_figure 18 = .ok (.aload_n 0, 1) := by decide +kernel
theorem dX11_figure_19 : decode cX11_figure 19 = .ok (.dup, 1) := by decide +kernel
theorem dX11_figure_20 : decode cX11_figure 20 = .ok (.getfield 116, 3) := by decide +kernel
theorem dX11_figure_23 : decode cX11_figure 23 = .ok (.iload_n 3, 1) := by decide +kernel
theorem dX11_figure_24 : decode cX11_figure 24 = .ok (.ifCond .eq 7, 3) := by decide +kernel
theorem dX11_figure_27 : decode cX11_figure 27 = .ok (.iconst 1, 1) := by decide +kernel
theorem dX11_figure_28 : decode cX11_figure 28 = .ok (.goto 4, 3) := by decide +kernel
theorem dX11_figure_31 : decode cX11_figure 31 = .ok (.iconst 0, 1) := by decide +kernel
theorem dX11_figure_32 : decode cX11_figure 32 = .ok (.iadd, 1) := by decide +kernel
theorem dX11_figure_33 : decode cX11_figure 33 = .ok (.putfield 116, 3) := by decide +kernel
theorem dX11_figure_36 : decode cX11_figure 36 = .ok (.iload_n 3, 1) := by decide +kernel
theorem dX11_figure_37 : decode cX11_figure 37 = .ok (.ireturn, 1) := by decide +kernel
def fX11_figure (σ : St) (p1 : Int32) (p2 : Int32) : Option (St × Int32) := cl (fX11_here σ p1) (fun σ1 r2 => cl (fX11_in σ1 ((r2 - 48).toInt64) (p2.toInt64) 9) (fun σ3 r4 => pv (if r4 = 0 then 0 else 1) (fun (y6 : Int32) => pt (su σ3 0 22 ((σ3.1 0 22) + y6)) (fun σ7 => gd (isB r4) (some (σ7, r4))))))
set_option maxHeartbeats 4000000 in
set_option maxRecDepth 100000 in
theorem ctX11_figure (l : Launch) (g : GG) (σ : St) (p1 : Int32) (p2 : Int32) (σ' : St) (r : Int32) (hE : fX11_figure σ p1 p2 = some (σ', r)) : MI 25 entM l g yX11_figure (Cond.code yX11_figure cX11_figure 4 (some .boolean) :: gtbl) (rmD 2) [.ref (g.2.1 0), .int p1, .int p2] σ σ' r := by
  refine mi_z (own := RX11) (lv := [(0, .ref (g.2.1 0)), (1, .int p1), (2, .int p2)]) (by decide) rfl (Nat.le_of_ble_eq_true rfl) rfl (fun p e s m below meth c ls args Q A H0 H locs C hK hA hQ hs hl => ?_)
  have hx := C.1
  have hb := C.2.1
  unfold fX11_figure at hE
  refine lv_aload_n hx hb dX11_figure_0 rfl (lv_at hl 0 rfl) ?_
  refine lv_iload_n hx hb dX11_figure_1 rfl (lv_at hl 1 rfl) ?_
  obtain ⟨σ1, r2, hE1, hE⟩ := cl_e hE
  refine x_civ (As := [.int p1]) (rest := []) C hl.1 hK hs hA ⟨Nat.le_refl 0, Nat.le_refl 0⟩ (ctX11_here l g _ _ _ _ hE1) (cw_X11_119 C ⟨Nat.le_of_ble_eq_true rfl, Nat.le_of_ble_eq_true rfl⟩) (hs.recv hK 0 (by decide) rfl rfl) rfl rfl (Nat.le_of_ble_eq_true rfl) dX11_figure_2 (fun H locs hs => ?_)
  refine lv_bipush (v := 48) hx hb dX11_figure_5 (by decide) ?_
  refine lv_isub hx hb dX11_figure_7 ?_
  refine lv_i2l (v := (r2 - 48).toInt64) hx hb dX11_figure_8 rfl ?_
  refine lv_iload_n hx hb dX11_figure_9 rfl (lv_at hl 2 rfl) ?_
  refine lv_i2l (v := p2.toInt64) hx hb dX11_figure_10 rfl ?_
  refine lv_ldc2 (v := 9) hx hb C.2.2.2.1 (C.2.2.2.2 _ mw_1140) dX11_figure_11 ?_
  obtain ⟨σ3, r4, hE1, hE⟩ := cl_e hE
  refine x_cis (As := [.long ((r2 - 48).toInt64), .long (p2.toInt64), .long 9]) (rest := []) C hl.1 hK hs hA ⟨Nat.le_refl 0, Nat.le_refl 0⟩ (ctX11_in l g _ _ _ _ _ _ hE1) (cw_X11_96 C ⟨Nat.le_of_ble_eq_true rfl, Nat.le_of_ble_eq_true rfl⟩) rfl rfl (Nat.le_of_ble_eq_true rfl) dX11_figure_14 (fun H locs hs => ?_)
  refine lv_istore_n (lv' := [(3, .int r4), (0, .ref (g.2.1 0)), (1, .int p1), (2, .int p2)]) hx hb dX11_figure_17 rfl hl (by decide) rfl (fun ls hl => ?_)
  refine lv_aload_n hx hb dX11_figure_18 rfl (lv_at hl 1 rfl) ?_
  refine lv_dup hx hb dX11_figure_19 rfl ?_
  refine gf_X11_116_0 C hK hs dX11_figure_20 ?_
  refine lv_iload_n hx hb dX11_figure_23 rfl (lv_at hl 0 rfl) ?_
  refine pvw hE (fun k5 hE hk5 => ?_)
  have hJk5 : ∀ (y6 : Int32) (H : Heap) (locs : List Loc) (ls : Array Slot), HW 25 entM g A H0 H locs σ3 → lv_has ls 4 [(3, .int r4)] → k5 y6 = some (σ', r) → W p l e (rmD 2) s m args below meth c H locs 0 0 Q (F0 m 32 ls [.int y6, .int (σ3.1 0 22), .ref (g.2.1 0)]) := by
    intro y6 H locs ls hs hl hE
    have hE := hk5 _ hE
    refine lv_iadd hx hb dX11_figure_32 ?_
    obtain ⟨σ7, eσ7, hE⟩ := pt_w hE
    refine pf_X11_116_0 C hK hs eσ7 dX11_figure_33 (fun H locs hs => ?_)
    refine lv_iload_n hx hb dX11_figure_36 rfl (lv_at hl 0 rfl) ?_
    obtain ⟨hc, hE⟩ := gd_e hE
    exact hQ hs hc hE dX11_figure_37
  refine lv_if_eq (tgt := 31) hx hb dX11_figure_24 (by decide) (fun hc => ?_) (fun hc => ?_)
  · have hE := pv_t hc hE
    refine lv_iconst (v := 0) hx hb dX11_figure_31 (by decide) ?_
    exact hJk5 0 _ _ _ hs (lv_sub hl [0] rfl) hE
  · have hE := pv_f hc hE
    refine lv_iconst (v := 1) hx hb dX11_figure_27 (by decide) ?_
    refine lv_goto (tgt := 32) hx hb dX11_figure_28 (by decide) ?_
    exact hJk5 1 _ _ _ hs (lv_sub hl [0] rfl) hE
theorem dX11_ends_0 : decode cX11_ends 0 = .ok (.aload_n 0, 1) := by decide +kernel
theorem dX11_ends_1 : decode cX11_ends 1 = .ok (.iload_n 1, 1) := by decide +kernel
theorem dX11_ends_2 : decode cX11_ends 2 = .ok (.invokevirtual 119, 3) := by decide +kernel
theorem dX11_ends_5 : decode cX11_ends 5 = .ok (.bipush 59, 2) := by decide +kernel
theorem dX11_ends_7 : decode cX11_ends 7 = .ok (.if_icmp .ne 7, 3) := by decide +kernel
theorem dX11_ends_10 : decode cX11_ends 10 = .ok (.iconst 1, 1) := by decide +kernel
theorem dX11_ends_11 : decode cX11_ends 11 = .ok (.goto 4, 3) := by decide +kernel
theorem dX11_ends_14 : decode cX11_ends 14 = .ok (.iconst 0, 1) := by decide +kernel
theorem dX11_ends_15 : decode cX11_ends 15 = .ok (.istore_n 2, 1) := by decide +kernel
theorem dX11_ends_16 : decode cX11_ends 16 = .ok (.aload_n 0, 1) := by decide +kernel
theorem dX11_ends_17 : decode cX11_ends 17 = .ok (.dup, 1) := by decide +kernel
theorem dX11_ends_18 : decode cX11_ends 18 = .ok (.getfield 116, 3) := by decide +kernel
theorem dX11_ends_21 : decode cX11_ends 21 = .ok (.iload_n 2, 1) := by decide +kernel
theorem dX11_ends_22 : decode cX11_ends 22 = .ok (.ifCond .eq 7, 3) := by decide +kernel
theorem dX11_ends_25 : decode cX11_ends 25 = .ok (.iconst 1, 1) := by decide +kernel
theorem dX11_ends_26 : decode cX11_ends 26 = .ok (.goto 4, 3) := by decide +kernel
theorem dX11_ends_29 : decode cX11_ends 29 = .ok (.iconst 0, 1) := by decide +kernel
theorem dX11_ends_30 : decode cX11_ends 30 = .ok (.iadd, 1) := by decide +kernel
theorem dX11_ends_31 : decode cX11_ends 31 = .ok (.putfield 116, 3) := by decide +kernel
theorem dX11_ends_34 : decode cX11_ends 34 = .ok (.iload_n 2, 1) := by decide +kernel
theorem dX11_ends_35 : decode cX11_ends 35 = .ok (.ireturn, 1) := by decide +kernel
def fX11_ends (σ : St) (p1 : Int32) : Option (St × Int32) := cl (fX11_here σ p1) (fun σ1 r2 => pv (if r2 = 59 then 1 else 0) (fun (y4 : Int32) => pv (if y4 = 0 then 0 else 1) (fun (y6 : Int32) => pt (su σ1 0 22 ((σ1.1 0 22) + y6)) (fun σ7 => gd (isB y4) (some (σ7, y4))))))
set_option maxHeartbeats 4000000 in
set_option maxRecDepth 100000 in
theorem ctX11_ends (l : Launch) (g : GG) (σ : St) (p1 : Int32) (σ' : St) (r : Int32) (hE : fX11_ends σ p1 = some (σ', r)) : MI 25 entM l g yX11_ends (Cond.code yX11_ends cX11_ends 3 (some .boolean) :: gtbl) (rmD 2) [.ref (g.2.1 0), .int p1] σ σ' r := by
  refine mi_z (own := RX11) (lv := [(0, .ref (g.2.1 0)), (1, .int p1)]) (by decide) rfl (Nat.le_of_ble_eq_true rfl) rfl (fun p e s m below meth c ls args Q A H0 H locs C hK hA hQ hs hl => ?_)
  have hx := C.1
  have hb := C.2.1
  unfold fX11_ends at hE
  refine lv_aload_n hx hb dX11_ends_0 rfl (lv_at hl 0 rfl) ?_
  refine lv_iload_n hx hb dX11_ends_1 rfl (lv_at hl 1 rfl) ?_
  obtain ⟨σ1, r2, hE1, hE⟩ := cl_e hE
  refine x_civ (As := [.int p1]) (rest := []) C hl.1 hK hs hA ⟨Nat.le_refl 0, Nat.le_refl 0⟩ (ctX11_here l g _ _ _ _ hE1) (cw_X11_119 C ⟨Nat.le_of_ble_eq_true rfl, Nat.le_of_ble_eq_true rfl⟩) (hs.recv hK 0 (by decide) rfl rfl) rfl rfl (Nat.le_of_ble_eq_true rfl) dX11_ends_2 (fun H locs hs => ?_)
  refine lv_bipush (v := 59) hx hb dX11_ends_5 (by decide) ?_
  refine pvw hE (fun k3 hE hk3 => ?_)
  have hJk3 : ∀ (y4 : Int32) (H : Heap) (locs : List Loc) (ls : Array Slot), HW 25 entM g A H0 H locs σ1 → lv_has ls 3 [(0, .ref (g.2.1 0))] → k3 y4 = some (σ', r) → W p l e (rmD 2) s m args below meth c H locs 0 0 Q (F0 m 15 ls [.int y4]) := by
    intro y4 H locs ls hs hl hE
    have hE := hk3 _ hE
    refine lv_istore_n (lv' := [(2, .int y4), (0, .ref (g.2.1 0))]) hx hb dX11_ends_15 rfl hl (by decide) rfl (fun ls hl => ?_)
    refine lv_aload_n hx hb dX11_ends_16 rfl (lv_at hl 1 rfl) ?_
    refine lv_dup hx hb dX11_ends_17 rfl ?_
    refine gf_X11_116_0 C hK hs dX11_ends_18 ?_
    refine lv_iload_n hx hb dX11_ends_21 rfl (lv_at hl 0 rfl) ?_
    refine pvw hE (fun k5 hE hk5 => ?_)
    have hJk5 : ∀ (y6 : Int32) (H : Heap) (locs : List Loc) (ls : Array Slot), HW 25 entM g A H0 H locs σ1 → lv_has ls 3 [(2, .int y4)] → k5 y6 = some (σ', r) → W p l e (rmD 2) s m args below meth c H locs 0 0 Q (F0 m 30 ls [.int y6, .int (σ1.1 0 22), .ref (g.2.1 0)]) := by
      intro y6 H locs ls hs hl hE
      have hE := hk5 _ hE
      refine lv_iadd hx hb dX11_ends_30 ?_
      obtain ⟨σ7, eσ7, hE⟩ := pt_w hE
      refine pf_X11_116_0 C hK hs eσ7 dX11_ends_31 (fun H locs hs => ?_)
      refine lv_iload_n hx hb dX11_ends_34 rfl (lv_at hl 0 rfl) ?_
      obtain ⟨hc, hE⟩ := gd_e hE
      exact hQ hs hc hE dX11_ends_35
    refine lv_if_eq (tgt := 29) hx hb dX11_ends_22 (by decide) (fun hc => ?_) (fun hc => ?_)
    · have hE := pv_t hc hE
      refine lv_iconst (v := 0) hx hb dX11_ends_29 (by decide) ?_
      exact hJk5 0 _ _ _ hs (lv_sub hl [0] rfl) hE
    · have hE := pv_f hc hE
      refine lv_iconst (v := 1) hx hb dX11_ends_25 (by decide) ?_
      refine lv_goto (tgt := 30) hx hb dX11_ends_26 (by decide) ?_
      exact hJk5 1 _ _ _ hs (lv_sub hl [0] rfl) hE
  refine lv_icmp_ne (tgt := 14) hx hb dX11_ends_7 (by decide) (fun hc => ?_) (fun hc => ?_)
  · have hE := pv_f hc hE
    refine lv_iconst (v := 0) hx hb dX11_ends_14 (by decide) ?_
    exact hJk3 0 _ _ _ hs (lv_sub hl [0] rfl) hE
  · have hE := pv_t hc hE
    refine lv_iconst (v := 1) hx hb dX11_ends_10 (by decide) ?_
    refine lv_goto (tgt := 15) hx hb dX11_ends_11 (by decide) ?_
    exact hJk3 1 _ _ _ hs (lv_sub hl [0] rfl) hE
theorem dX11_isLetter_0 : decode cX11_isLetter 0 = .ok (.iload_n 1, 1) := by decide +kernel
theorem dX11_isLetter_1 : decode cX11_isLetter 1 = .ok (.i2l, 1) := by decide +kernel
theorem dX11_isLetter_2 : decode cX11_isLetter 2 = .ok (.ldc2_w 124, 3) := by decide +kernel
theorem dX11_isLetter_5 : decode cX11_isLetter 5 = .ok (.ldc2_w 126, 3) := by decide +kernel
theorem dX11_isLetter_8 : decode cX11_isLetter 8 = .ok (.invokestatic 96, 3) := by decide +kernel
theorem dX11_isLetter_11 : decode cX11_isLetter 11 = .ok (.ireturn, 1) := by decide +kernel
def fX11_isLetter (σ : St) (p1 : Int32) : Option (St × Int32) := cl (fX11_in σ (p1.toInt64) 97 122) (fun σ1 r2 => gd (isB r2) (some (σ1, r2)))
set_option maxHeartbeats 4000000 in
set_option maxRecDepth 100000 in
theorem ctX11_isLetter (l : Launch) (g : GG) (σ : St) (p1 : Int32) (σ' : St) (r : Int32) (hE : fX11_isLetter σ p1 = some (σ', r)) : MI 25 entM l g yX11_isLetter (Cond.code yX11_isLetter cX11_isLetter 2 (some .boolean) :: gtbl) (rmD 2) [.ref (g.2.1 0), .int p1] σ σ' r := by
  refine mi_z (own := RX11) (lv := [(0, .ref (g.2.1 0)), (1, .int p1)]) (by decide) rfl (Nat.le_of_ble_eq_true rfl) rfl (fun p e s m below meth c ls args Q A H0 H locs C hK hA hQ hs hl => ?_)
  have hx := C.1
  have hb := C.2.1
  unfold fX11_isLetter at hE
  refine lv_iload_n hx hb dX11_isLetter_0 rfl (lv_at hl 1 rfl) ?_
  refine lv_i2l (v := p1.toInt64) hx hb dX11_isLetter_1 rfl ?_
  refine lv_ldc2 (v := 97) hx hb C.2.2.2.1 (C.2.2.2.2 _ mw_1126) dX11_isLetter_2 ?_
  refine lv_ldc2 (v := 122) hx hb C.2.2.2.1 (C.2.2.2.2 _ mw_1127) dX11_isLetter_5 ?_
  obtain ⟨σ1, r2, hE1, hE⟩ := cl_e hE
  refine x_cis (As := [.long (p1.toInt64), .long 97, .long 122]) (rest := []) C hl.1 hK hs hA ⟨Nat.le_refl 0, Nat.le_refl 0⟩ (ctX11_in l g _ _ _ _ _ _ hE1) (cw_X11_96 C ⟨Nat.le_of_ble_eq_true rfl, Nat.le_of_ble_eq_true rfl⟩) rfl rfl (Nat.le_of_ble_eq_true rfl) dX11_isLetter_8 (fun H locs hs => ?_)
  obtain ⟨hc, hE⟩ := gd_e hE
  exact hQ hs hc hE dX11_isLetter_11
theorem dX11_readsHouse_0 : decode cX11_readsHouse 0 = .ok (.aload_n 0, 1) := by decide +kernel
theorem dX11_readsHouse_1 : decode cX11_readsHouse 1 = .ok (.iload_n 1, 1) := by decide +kernel
theorem dX11_readsHouse_2 : decode cX11_readsHouse 2 = .ok (.invokevirtual 119, 3) := by decide +kernel
theorem dX11_readsHouse_5 : decode cX11_readsHouse 5 = .ok (.invokestatic 128, 3) := by decide +kernel
theorem dX11_readsHouse_8 : decode cX11_readsHouse 8 = .ok (.istore_n 2, 1) := by decide +kernel
theorem dX11_readsHouse_9 : decode cX11_readsHouse 9 = .ok (.iload_n 2, 1) := by decide +kernel
theorem dX11_readsHouse_10 : decode cX11_readsHouse 10 = .ok (.bipush (-9), 2) := by decide +kernel
theorem dX11_readsHouse_12 : decode cX11_readsHouse 12 = .ok (.if_icmp .eq 12, 3) := by decide +kernel
theorem dX11_readsHouse_15 : decode cX11_readsHouse 15 = .ok (.aload_n 0, 1) := by decide +kernel
theorem dX11_readsHouse_16 : decode cX11_readsHouse 16 = .ok (.getfield 131, 3) := by decide +kernel
theorem dX11_readsHouse_19 : decode cX11_readsHouse 19 = .ok (.bipush 6, 2) := by decide +kernel
theorem dX11_readsHouse_21 : decode cX11_readsHouse 21 = .ok (.if_icmp .ne 5, 3) := by decide +kernel
theorem dX11_readsHouse_24 : decode cX11_readsHouse 24 = .ok (.iconst 0, 1) := by decide +kernel
theorem dX11_readsHouse_25 : decode cX11_readsHouse 25 = .ok (.ireturn, 1) := by decide +kernel
theorem dX11_readsHouse_26 : decode cX11_readsHouse 26 = .ok (.aload_n 0, 1) := by decide +kernel
theorem dX11_readsHouse_27 : decode cX11_readsHouse 27 = .ok (.dup, 1) := by decide +kernel
theorem dX11_readsHouse_28 : decode cX11_readsHouse 28 = .ok (.getfield 116, 3) := by decide +kernel
theorem dX11_readsHouse_31 : decode cX11_readsHouse 31 = .ok (.iconst 1, 1) := by decide +kernel
theorem dX11_readsHouse_32 : decode cX11_readsHouse 32 = .ok (.iadd, 1) := by decide +kernel
theorem dX11_readsHouse_33 : decode cX11_readsHouse 33 = .ok (.putfield 116, 3) := by decide +kernel
theorem dX11_readsHouse_36 : decode cX11_readsHouse 36 = .ok (.aload_n 0, 1) := by decide +kernel
theorem dX11_readsHouse_37 : decode cX11_readsHouse 37 = .ok (.iload_n 1, 1) := by decide +kernel
theorem dX11_readsHouse_38 : decode cX11_readsHouse 38 = .ok (.iconst 0, 1) := by decide +kernel
theorem dX11_readsHouse_39 : decode cX11_readsHouse 39 = .ok (.invokevirtual 134, 3) := by decide +kernel
theorem dX11_readsHouse_42 : decode cX11_readsHouse 42 = .ok (.ifCond .ne 5, 3) := by decide +kernel
theorem dX11_readsHouse_45 : decode cX11_readsHouse 45 = .ok (.iconst 0, 1) := by decide +kernel
theorem dX11_readsHouse_46 : decode cX11_readsHouse 46 = .ok (.ireturn, 1) := by decide +kernel
theorem dX11_readsHouse_47 : decode cX11_readsHouse 47 = .ok (.aload_n 0, 1) := by decide +kernel
theorem dX11_readsHouse_48 : decode cX11_readsHouse 48 = .ok (.getfield 60, 3) := by decide +kernel
theorem dX11_readsHouse_51 : decode cX11_readsHouse 51 = .ok (.aload_n 0, 1) := by decide +kernel
theorem dX11_readsHouse_52 : decode cX11_readsHouse 52 = .ok (.getfield 131, 3) := by decide +kernel
theorem dX11_readsHouse_55 : decode cX11_readsHouse 55 = .ok (.iload_n 2, 1) := by decide +kernel
theorem dX11_readsHouse_56 : decode cX11_readsHouse 56 = .ok (.iastore, 1) := by decide +kernel
theorem dX11_readsHouse_57 : decode cX11_readsHouse 57 = .ok (.aload_n 0, 1) := by decide +kernel
theorem dX11_readsHouse_58 : decode cX11_readsHouse 58 = .ok (.getfield 63, 3) := by decide +kernel
theorem dX11_readsHouse_61 : decode cX11_readsHouse 61 = .ok (.aload_n 0, 1) := by decide +kernel
theorem dX11_readsHouse_62 : decode cX11_readsHouse 62 = .ok (.getfield 131, 3) := by decide +kernel
theorem dX11_readsHouse_65 : decode cX11_readsHouse 65 = .ok (.aload_n 0, 1) := by decide +kernel
theorem dX11_readsHouse_66 : decode cX11_readsHouse 66 = .ok (.getfield 19, 3) := by decide +kernel
theorem dX11_readsHouse_69 : decode cX11_readsHouse 69 = .ok (.bipush 90, 2) := by decide +kernel
theorem dX11_readsHouse_71 : decode cX11_readsHouse 71 = .ok (.iload_n 1, 1) := by decide +kernel
theorem dX11_readsHouse_72 : decode cX11_readsHouse 72 = .ok (.imul, 1) := by decide +kernel
theorem dX11_readsHouse_73 : decode cX11_readsHouse 73 = .ok (.aload_n 0, 1) := by decide +kernel
theorem dX11_readsHouse_74 : decode cX11_readsHouse 74 = .ok (.getfield 116, 3) := by decide +kernel
theorem dX11_readsHouse_77 : decode cX11_readsHouse 77 = .ok (.iadd, 1) := by decide +kernel
theorem dX11_readsHouse_78 : decode cX11_readsHouse 78 = .ok (.iconst 1, 1) := by decide +kernel
theorem dX11_readsHouse_79 : decode cX11_readsHouse 79 = .ok (.isub, 1) := by decide +kernel
theorem dX11_readsHouse_80 : decode cX11_readsHouse 80 = .ok (.iaload, 1) := by decide +kernel
theorem dX11_readsHouse_81 : decode cX11_readsHouse 81 = .ok (.bipush 48, 2) := by decide +kernel
theorem dX11_readsHouse_83 : decode cX11_readsHouse 83 = .ok (.isub, 1) := by decide +kernel
theorem dX11_readsHouse_84 : decode cX11_readsHouse 84 = .ok (.iastore, 1) := by decide +kernel
theorem dX11_readsHouse_85 : decode cX11_readsHouse 85 = .ok (.aload_n 0, 1) := by decide +kernel
theorem dX11_readsHouse_86 : decode cX11_readsHouse 86 = .ok (.dup, 1) := by decide +kernel
theorem dX11_readsHouse_87 : decode cX11_readsHouse 87 = .ok (.getfield 131, 3) := by decide +kernel
theorem dX11_readsHouse_90 : decode cX11_readsHouse 90 = .ok (.iconst 1, 1) := by decide +kernel
theorem dX11_readsHouse_91 : decode cX11_readsHouse 91 = .ok (.iadd, 1) := by decide +kernel
theorem dX11_readsHouse_92 : decode cX11_readsHouse 92 = .ok (.putfield 131, 3) := by decide +kernel
theorem dX11_readsHouse_95 : decode cX11_readsHouse 95 = .ok (.aload_n 0, 1) := by decide +kernel
theorem dX11_readsHouse_96 : decode cX11_readsHouse 96 = .ok (.iload_n 1, 1) := by decide +kernel
theorem dX11_readsHouse_97 : decode cX11_readsHouse 97 = .ok (.invokevirtual 138, 3) := by decide +kernel
theorem dX11_readsHouse_100 : decode cX11_readsHouse 100 = .ok (.ireturn, 1) := by decide +kernel
def fX11_readsHouse (σ : St) (p1 : Int32) : Option (St × Int32) := cl (fX11_here σ p1) (fun σ1 r2 => cl (fX11_kindOf σ1 r2) (fun σ3 r4 => (if r4 = (-9) then some (σ3, 0) else (if (σ3.1 0 23) = 6 then some (σ3, 0) else pt (su σ3 0 22 ((σ3.1 0 22) + 1)) (fun σ5 => cl (fX11_figure σ5 p1 0) (fun σ6 r7 => (if r7 = 0 then some (σ6, 0) else wr LM σ6 16 (σ6.1 0 23) r4 (fun σ8 => rd LM σ8 4 (((90 * p1) + (σ8.1 0 22)) - 1) (fun x9 => wr LM σ8 17 (σ8.1 0 23) (x9 - 48) (fun σ10 => pt (su σ10 0 23 ((σ10.1 0 23) + 1)) (fun σ11 => cl (fX11_ends σ11 p1) (fun σ12 r13 => gd (isB r13) (some (σ12, r13))))))))))))))
set_option maxHeartbeats 4000000 in
set_option maxRecDepth 100000 in
theorem ctX11_readsHouse (l : Launch) (g : GG) (σ : St) (p1 : Int32) (σ' : St) (r : Int32) (hE : fX11_readsHouse σ p1 = some (σ', r)) : MI 25 entM l g yX11_readsHouse (Cond.code yX11_readsHouse cX11_readsHouse 3 (some .boolean) :: gtbl) (rmD 3) [.ref (g.2.1 0), .int p1] σ σ' r := by
  refine mi_z (own := RX11) (lv := [(0, .ref (g.2.1 0)), (1, .int p1)]) (by decide) rfl (Nat.le_of_ble_eq_true rfl) rfl (fun p e s m below meth c ls args Q A H0 H locs C hK hA hQ hs hl => ?_)
  have hx := C.1
  have hb := C.2.1
  unfold fX11_readsHouse at hE
  refine lv_aload_n hx hb dX11_readsHouse_0 rfl (lv_at hl 0 rfl) ?_
  refine lv_iload_n hx hb dX11_readsHouse_1 rfl (lv_at hl 1 rfl) ?_
  obtain ⟨σ1, r2, hE1, hE⟩ := cl_e hE
  refine x_civ (As := [.int p1]) (rest := []) C hl.1 hK hs hA ⟨Nat.le_refl 0, Nat.le_refl 0⟩ (ctX11_here l g _ _ _ _ hE1) (cw_X11_119 C ⟨Nat.le_of_ble_eq_true rfl, Nat.le_of_ble_eq_true rfl⟩) (hs.recv hK 0 (by decide) rfl rfl) rfl rfl (Nat.le_of_ble_eq_true rfl) dX11_readsHouse_2 (fun H locs hs => ?_)
  obtain ⟨σ3, r4, hE1, hE⟩ := cl_e hE
  refine x_cis (As := [.int r2]) (rest := []) C hl.1 hK hs hA ⟨Nat.le_refl 0, Nat.le_refl 0⟩ (ctX11_kindOf l g _ _ _ _ hE1) (cw_X11_128 C ⟨Nat.le_of_ble_eq_true rfl, Nat.le_of_ble_eq_true rfl⟩) rfl rfl (Nat.le_of_ble_eq_true rfl) dX11_readsHouse_5 (fun H locs hs => ?_)
  refine lv_istore_n (lv' := [(2, .int r4), (0, .ref (g.2.1 0)), (1, .int p1)]) hx hb dX11_readsHouse_8 rfl hl (by decide) rfl (fun ls hl => ?_)
  refine lv_iload_n hx hb dX11_readsHouse_9 rfl (lv_at hl 0 rfl) ?_
  refine lv_bipush (v := (-9)) hx hb dX11_readsHouse_10 (by decide) ?_
  refine lv_icmp_eq (tgt := 24) hx hb dX11_readsHouse_12 (by decide) (fun hc => ?_) (fun hc => ?_)
  · have hE := if_t hc hE
    refine lv_iconst (v := 0) hx hb dX11_readsHouse_24 (by decide) ?_
    exact hQ hs rfl hE dX11_readsHouse_25
  · have hE := if_f hc hE
    refine lv_aload_n hx hb dX11_readsHouse_15 rfl (lv_at hl 1 rfl) ?_
    refine gf_X11_131_0 C hK hs dX11_readsHouse_16 ?_
    refine lv_bipush (v := 6) hx hb dX11_readsHouse_19 (by decide) ?_
    refine lv_icmp_ne (tgt := 26) hx hb dX11_readsHouse_21 (by decide) (fun hc => ?_) (fun hc => ?_)
    · have hE := if_f hc hE
      refine lv_aload_n hx hb dX11_readsHouse_26 rfl (lv_at hl 1 rfl) ?_
      refine lv_dup hx hb dX11_readsHouse_27 rfl ?_
      refine gf_X11_116_0 C hK hs dX11_readsHouse_28 ?_
      refine lv_iconst (v := 1) hx hb dX11_readsHouse_31 (by decide) ?_
      refine lv_iadd hx hb dX11_readsHouse_32 ?_
      obtain ⟨σ5, eσ5, hE⟩ := pt_w hE
      refine pf_X11_116_0 C hK hs eσ5 dX11_readsHouse_33 (fun H locs hs => ?_)
      refine lv_aload_n hx hb dX11_readsHouse_36 rfl (lv_at hl 1 rfl) ?_
      refine lv_iload_n hx hb dX11_readsHouse_37 rfl (lv_at hl 2 rfl) ?_
      refine lv_iconst (v := 0) hx hb dX11_readsHouse_38 (by decide) ?_
      obtain ⟨σ6, r7, hE1, hE⟩ := cl_e hE
      refine x_civ (As := [.int p1, .int 0]) (rest := []) C hl.1 hK hs hA ⟨Nat.le_refl 0, Nat.le_refl 0⟩ (ctX11_figure l g _ _ _ _ _ hE1) (cw_X11_134 C ⟨Nat.le_of_ble_eq_true rfl, Nat.le_of_ble_eq_true rfl⟩) (hs.recv hK 0 (by decide) rfl rfl) rfl rfl (Nat.le_of_ble_eq_true rfl) dX11_readsHouse_39 (fun H locs hs => ?_)
      refine lv_if_ne (tgt := 47) hx hb dX11_readsHouse_42 (by decide) (fun hc => ?_) (fun hc => ?_)
      · have hE := if_f hc hE
        refine lv_aload_n hx hb dX11_readsHouse_47 rfl (lv_at hl 1 rfl) ?_
        refine gf_X11_60_0 C hK hs dX11_readsHouse_48 ?_
        refine lv_aload_n hx hb dX11_readsHouse_51 rfl (lv_at hl 1 rfl) ?_
        refine gf_X11_131_0 C hK hs dX11_readsHouse_52 ?_
        refine lv_iload_n hx hb dX11_readsHouse_55 rfl (lv_at hl 0 rfl) ?_
        obtain ⟨hi, σ8, eσ8, hE⟩ := wr_w hE
        refine y_ast layM C hK hs hi eσ8 dX11_readsHouse_56 (fun H locs hs => ?_)
        refine lv_aload_n hx hb dX11_readsHouse_57 rfl (lv_at hl 1 rfl) ?_
        refine gf_X11_63_0 C hK hs dX11_readsHouse_58 ?_
        refine lv_aload_n hx hb dX11_readsHouse_61 rfl (lv_at hl 1 rfl) ?_
        refine gf_X11_131_0 C hK hs dX11_readsHouse_62 ?_
        refine lv_aload_n hx hb dX11_readsHouse_65 rfl (lv_at hl 1 rfl) ?_
        refine gf_X11_19_0 C hK hs dX11_readsHouse_66 ?_
        refine lv_bipush (v := 90) hx hb dX11_readsHouse_69 (by decide) ?_
        refine lv_iload_n hx hb dX11_readsHouse_71 rfl (lv_at hl 2 rfl) ?_
        refine lv_imul hx hb dX11_readsHouse_72 ?_
        refine lv_aload_n hx hb dX11_readsHouse_73 rfl (lv_at hl 1 rfl) ?_
        refine gf_X11_116_0 C hK hs dX11_readsHouse_74 ?_
        refine lv_iadd hx hb dX11_readsHouse_77 ?_
        refine lv_iconst (v := 1) hx hb dX11_readsHouse_78 (by decide) ?_
        refine lv_isub hx hb dX11_readsHouse_79 ?_
        obtain ⟨hi, x9, ex9, hE⟩ := rd_w hE
        refine y_ald layM C hK hs hi ex9 dX11_readsHouse_80 ?_
        refine lv_bipush (v := 48) hx hb dX11_readsHouse_81 (by decide) ?_
        refine lv_isub hx hb dX11_readsHouse_83 ?_
        obtain ⟨hi, σ10, eσ10, hE⟩ := wr_w hE
        refine y_ast layM C hK hs hi eσ10 dX11_readsHouse_84 (fun H locs hs => ?_)
        refine lv_aload_n hx hb dX11_readsHouse_85 rfl (lv_at hl 1 rfl) ?_
        refine lv_dup hx hb dX11_readsHouse_86 rfl ?_
        refine gf_X11_131_0 C hK hs dX11_readsHouse_87 ?_
        refine lv_iconst (v := 1) hx hb dX11_readsHouse_90 (by decide) ?_
        refine lv_iadd hx hb dX11_readsHouse_91 ?_
        obtain ⟨σ11, eσ11, hE⟩ := pt_w hE
        refine pf_X11_131_0 C hK hs eσ11 dX11_readsHouse_92 (fun H locs hs => ?_)
        refine lv_aload_n hx hb dX11_readsHouse_95 rfl (lv_at hl 1 rfl) ?_
        refine lv_iload_n hx hb dX11_readsHouse_96 rfl (lv_at hl 2 rfl) ?_
        obtain ⟨σ12, r13, hE1, hE⟩ := cl_e hE
        refine x_civ (As := [.int p1]) (rest := []) C hl.1 hK hs hA ⟨Nat.le_refl 0, Nat.le_refl 0⟩ (ctX11_ends l g _ _ _ _ hE1) (cw_X11_138 C ⟨Nat.le_of_ble_eq_true rfl, Nat.le_of_ble_eq_true rfl⟩) (hs.recv hK 0 (by decide) rfl rfl) rfl rfl (Nat.le_of_ble_eq_true rfl) dX11_readsHouse_97 (fun H locs hs => ?_)
        obtain ⟨hc, hE⟩ := gd_e hE
        exact hQ hs hc hE dX11_readsHouse_100
      · have hE := if_t hc hE
        refine lv_iconst (v := 0) hx hb dX11_readsHouse_45 (by decide) ?_
        exact hQ hs rfl hE dX11_readsHouse_46
    · have hE := if_t hc hE
      refine lv_iconst (v := 0) hx hb dX11_readsHouse_24 (by decide) ?_
      exact hQ hs rfl hE dX11_readsHouse_25
theorem dX11_isToldAlready_0 : decode cX11_isToldAlready 0 = .ok (.iconst 0, 1) := by decide +kernel
theorem dX11_isToldAlready_1 : decode cX11_isToldAlready 1 = .ok (.istore_n 1, 1) := by decide +kernel
theorem dX11_isToldAlready_2 : decode cX11_isToldAlready 2 = .ok (.iload_n 1, 1) := by decide +kernel
theorem dX11_isToldAlready_3 : decode cX11_isToldAlready 3 = .ok (.aload_n 0, 1) := by decide +kernel
theorem dX11_isToldAlready_4 : decode cX11_isToldAlready 4 = .ok (.getfield 141, 3) := by decide +kernel
theorem dX11_isToldAlready_7 : decode cX11_isToldAlready 7 = .ok (.if_icmp .ge 69, 3) := by decide +kernel
theorem dX11_isToldAlready_10 : decode cX11_isToldAlready 10 = .ok (.iconst 1, 1) := by decide +kernel
theorem dX11_isToldAlready_11 : decode cX11_isToldAlready 11 = .ok (.istore_n 2, 1) := by decide +kernel
theorem dX11_isToldAlready_12 : decode cX11_isToldAlready 12 = .ok (.iconst 0, 1) := by decide +kernel
theorem dX11_isToldAlready_13 : decode cX11_isToldAlready 13 = .ok (.istore_n 3, 1) := by decide +kernel
theorem dX11_isToldAlready_14 : decode cX11_isToldAlready 14 = .ok (.iload_n 3, 1) := by decide +kernel
theorem dX11_isToldAlready_15 : decode cX11_isToldAlready 15 = .ok (.bipush 7, 2) := by decide +kernel
theorem dX11_isToldAlready_17 : decode cX11_isToldAlready 17 = .ok (.if_icmp .ge 47, 3) := by decide +kernel
theorem dX11_isToldAlready_20 : decode cX11_isToldAlready 20 = .ok (.iload_n 2, 1) := by decide +kernel
theorem dX11_isToldAlready_21 : decode cX11_isToldAlready 21 = .ok (.ifCond .eq 35, 3) := by decide +kernel
theorem dX11_isToldAlready_24 : decode cX11_isToldAlready 24 = .ok (.aload_n 0, 1) := by decide +kernel
theorem dX11_isToldAlready_25 : decode cX11_isToldAlready 25 = .ok (.getfield 66, 3) := by decide +kernel
theorem dX11_isToldAlready_28 : decode cX11_isToldAlready 28 = .ok (.bipush 7, 2) := by decide +kernel
theorem dX11_isToldAlready_30 : decode cX11_isToldAlready 30 = .ok (.iload_n 1, 1) := by decide +kernel
theorem dX11_isToldAlready_31 : decode cX11_isToldAlready 31 = .ok (.imul, 1) := by decide +kernel
theorem dX11_isToldAlready_32 : decode cX11_isToldAlready 32 = .ok (.iload_n 3, 1) := by decide +kernel
theorem dX11_isToldAlready_33 : decode cX11_isToldAlready 33 = .ok (.iadd, 1) := by decide +kernel
theorem dX11_isToldAlready_34 : decode cX11_isToldAlready 34 = .ok (.iaload, 1) := by decide +kernel
theorem dX11_isToldAlready_35 : decode cX11_isToldAlready 35 = .ok (.aload_n 0, 1) := by decide +kernel
theorem dX11_isToldAlready_36 : decode cX11_isToldAlready 36 = .ok (.getfield 66, 3) := by decide +kernel
theorem dX11_isToldAlready_39 : decode cX11_isToldAlready 39 = .ok (.bipush 7, 2) := by decide +kernel
theorem dX11_isToldAlready_41 : decode cX11_isToldAlready 41 = .ok (.aload_n 0, 1) := by decide +kernel
theorem dX11_isToldAlready_42 : decode cX11_isToldAlready 42 = .ok (.getfield 141, 3) := by decide +kernel
theorem dX11_isToldAlready_45 : decode cX11_isToldAlready 45 = .ok (.imul, 1) := by decide +kernel
theorem dX11_isToldAlready_46 : decode cX11_isToldAlready 46 = .ok (.iload_n 3, 1) := by decide +kernel
theorem dX11_isToldAlready_47 : decode cX11_isToldAlready 47 = .ok (.iadd, 1) := by decide +kernel
theorem dX11_isToldAlready_48 : decode cX11_isToldAlready 48 = .ok (.iaload, 1) := by decide +kernel
theorem dX11_isToldAlready_49 : decode cX11_isToldAlready 49 = .ok (.if_icmp .ne 7, 3) := by decide +kernel
theorem dX11_isToldAlready_52 : decode cX11_isToldAlready 52 = .ok (.iconst 1, 1) := by decide +kernel
theorem dX11_isToldAlready_53 : decode cX11_isToldAlready 53 = .ok (.goto 4, 3) := by decide +kernel
theorem dX11_isToldAlready_56 : decode cX11_isToldAlready 56 = .ok (.iconst 0, 1) := by decide +kernel
theorem dX11_isToldAlready_57 : decode cX11_isToldAlready 57 = .ok (.istore_n 2, 1) := by decide +kernel
theorem dX11_isToldAlready_58 : decode cX11_isToldAlready 58 = .ok (.iinc 3 1, 3) := by decide +kernel
theorem dX11_isToldAlready_61 : decode cX11_isToldAlready 61 = .ok (.goto (-47), 3) := by decide +kernel
theorem dX11_isToldAlready_64 : decode cX11_isToldAlready 64 = .ok (.iload_n 2, 1) := by decide +kernel
theorem dX11_isToldAlready_65 : decode cX11_isToldAlready 65 = .ok (.ifCond .eq 5, 3) := by decide +kernel
theorem dX11_isToldAlready_68 : decode cX11_isToldAlready 68 = .ok (.iconst 1, 1) := by decide +kernel
theorem dX11_isToldAlready_69 : decode cX11_isToldAlready 69 = .ok (.ireturn, 1) := by decide +kernel
theorem dX11_isToldAlready_70 : decode cX11_isToldAlready 70 = .ok (.iinc 1 1, 3) := by decide +kernel
theorem dX11_isToldAlready_73 : decode cX11_isToldAlready 73 = .ok (.goto (-71), 3) := by decide +kernel
theorem dX11_isToldAlready_76 : decode cX11_isToldAlready 76 = .ok (.iconst 0, 1) := by decide +kernel
theorem dX11_isToldAlready_77 : decode cX11_isToldAlready 77 = .ok (.ireturn, 1) := by decide +kernel
def fX11_isToldAlready_L14 (v2 : Int32) : Nat → St → Int32 → Int32 → (St → Int32 → Int32 → Option (St × Int32)) → Option (St × Int32)
  | 0, _, _, _, _ => none
  | n + 1, σ3, v4, v5, k => (if 7 ≤ v5 then k σ3 v4 v5 else jn (fun (y7 : Int32) => fX11_isToldAlready_L14 v2 n σ3 y7 (v5 + 1) k) (fun k6 => jn (k6 0) (fun k8 => (if v4 = 0 then k8 else rd LM σ3 18 ((7 * v2) + v5) (fun x9 => rd LM σ3 18 ((7 * (σ3.1 0 26)) + v5) (fun x10 => (if x9 = x10 then k6 1 else k8)))))))
def fX11_isToldAlready_L2 : Nat → St → Int32 → (St → Int32 → Option (St × Int32)) → Option (St × Int32)
  | 0, _, _, _ => none
  | n + 1, σ1, v2, k => (if (σ1.1 0 26) ≤ v2 then k σ1 v2 else fX11_isToldAlready_L14 v2 10000 σ1 1 0 (fun σ11 v12 v13 => (if v12 = 0 then fX11_isToldAlready_L2 n σ11 (v2 + 1) k else some (σ11, 1))))
def fX11_isToldAlready (σ : St) : Option (St × Int32) := fX11_isToldAlready_L2 10000 σ 0 (fun σ14 v15 => some (σ14, 0))
set_option maxHeartbeats 4000000 in
set_option maxRecDepth 100000 in
theorem ctX11_isToldAlready (l : Launch) (g : GG) (σ : St) (σ' : St) (r : Int32) (hE : fX11_isToldAlready σ  = some (σ', r)) : MI 25 entM l g yX11_isToldAlready (Cond.code yX11_isToldAlready cX11_isToldAlready 4 (some .boolean) :: gtbl) (rmD 1) [.ref (g.2.1 0)] σ σ' r := by
  refine mi_z (own := RX11) (lv := [(0, .ref (g.2.1 0))]) (by decide) rfl (Nat.le_of_ble_eq_true rfl) rfl (fun p e s m below meth c ls args Q A H0 H locs C hK hA hQ hs hl => ?_)
  have hx := C.1
  have hb := C.2.1
  unfold fX11_isToldAlready at hE
  refine lv_iconst (v := 0) hx hb dX11_isToldAlready_0 (by decide) ?_
  refine lv_istore_n (lv' := [(1, .int 0), (0, .ref (g.2.1 0))]) hx hb dX11_isToldAlready_1 rfl hl (by decide) rfl (fun ls hl => ?_)
  have hL2 : ∀ (n : Nat) (σ1 : St) (v2 : Int32) (k : St → Int32 → Option (St × Int32)), fX11_isToldAlready_L2 n σ1 v2 k = some (σ', r) → (∀ (σ1 : St) (v2 : Int32) (H : Heap) (locs : List Loc) (ls : Array Slot), HW 25 entM g A H0 H locs σ1 → lv_has ls 4 [(0, .ref (g.2.1 0)), (1, .int v2)] → k σ1 v2 = some (σ', r) → W p l e (rmD 1) s m args below meth c H locs 0 0 Q (F0 m 76 ls [])) → ∀ (H : Heap) (locs : List Loc) (ls : Array Slot), HW 25 entM g A H0 H locs σ1 → lv_has ls 4 [(0, .ref (g.2.1 0)), (1, .int v2)] → W p l e (rmD 1) s m args below meth c H locs 0 0 Q (F0 m 2 ls []) := by
    intro n
    induction n with
    | zero =>
      intro σ1 v2 k hE
      rw [fX11_isToldAlready_L2] at hE
      exact no_e hE
    | succ n ih =>
      intro σ1 v2 k hE hk H locs ls hs hl
      rw [fX11_isToldAlready_L2] at hE
      refine lv_iload_n hx hb dX11_isToldAlready_2 rfl (lv_at hl 1 rfl) ?_
      refine lv_aload_n hx hb dX11_isToldAlready_3 rfl (lv_at hl 0 rfl) ?_
      refine gf_X11_141_0 C hK hs dX11_isToldAlready_4 ?_
      refine lv_icmp_ge (tgt := 76) hx hb dX11_isToldAlready_7 (by decide) (fun hc => ?_) (fun hc => ?_)
      · have hE := if_t hc hE
        exact hk σ1 v2 _ _ _ hs (lv_sub hl [0, 1] rfl) hE
      · have hE := if_f hc hE
        refine lv_iconst (v := 1) hx hb dX11_isToldAlready_10 (by decide) ?_
        refine lv_istore_n (lv' := [(2, .int 1), (0, .ref (g.2.1 0)), (1, .int v2)]) hx hb dX11_isToldAlready_11 rfl hl (by decide) rfl (fun ls hl => ?_)
        refine lv_iconst (v := 0) hx hb dX11_isToldAlready_12 (by decide) ?_
        refine lv_istore_n (lv' := [(3, .int 0), (2, .int 1), (0, .ref (g.2.1 0)), (1, .int v2)]) hx hb dX11_isToldAlready_13 rfl hl (by decide) rfl (fun ls hl => ?_)
        have hL14 : ∀ (n : Nat) (σ3 : St) (v4 : Int32) (v5 : Int32) (k : St → Int32 → Int32 → Option (St × Int32)), fX11_isToldAlready_L14 v2 n σ3 v4 v5 k = some (σ', r) → (∀ (σ3 : St) (v4 : Int32) (v5 : Int32) (H : Heap) (locs : List Loc) (ls : Array Slot), HW 25 entM g A H0 H locs σ3 → lv_has ls 4 [(0, .ref (g.2.1 0)), (1, .int v2), (2, .int v4), (3, .int v5)] → k σ3 v4 v5 = some (σ', r) → W p l e (rmD 1) s m args below meth c H locs 0 0 Q (F0 m 64 ls [])) → ∀ (H : Heap) (locs : List Loc) (ls : Array Slot), HW 25 entM g A H0 H locs σ3 → lv_has ls 4 [(0, .ref (g.2.1 0)), (1, .int v2), (2, .int v4), (3, .int v5)] → W p l e (rmD 1) s m args below meth c H locs 0 0 Q (F0 m 14 ls []) := by
          intro n
          induction n with
          | zero =>
            intro σ3 v4 v5 k hE
            rw [fX11_isToldAlready_L14] at hE
            exact no_e hE
          | succ n ih =>
            intro σ3 v4 v5 k hE hk H locs ls hs hl
            rw [fX11_isToldAlready_L14] at hE
            refine lv_iload_n hx hb dX11_isToldAlready_14 rfl (lv_at hl 3 rfl) ?_
            refine lv_bipush (v := 7) hx hb dX11_isToldAlready_15 (by decide) ?_
            refine lv_icmp_ge (tgt := 64) hx hb dX11_isToldAlready_17 (by decide) (fun hc => ?_) (fun hc => ?_)
            · have hE := if_t hc hE
              exact hk σ3 v4 v5 _ _ _ hs (lv_sub hl [0, 1, 2, 3] rfl) hE
            · have hE := if_f hc hE
              refine lv_iload_n hx hb dX11_isToldAlready_20 rfl (lv_at hl 2 rfl) ?_
              refine jn1 hE (fun k6 hE hk6 => ?_)
              have hJk6 : ∀ (y7 : Int32) (H : Heap) (locs : List Loc) (ls : Array Slot), HW 25 entM g A H0 H locs σ3 → lv_has ls 4 [(0, .ref (g.2.1 0)), (1, .int v2), (3, .int v5)] → k6 y7 = some (σ', r) → W p l e (rmD 1) s m args below meth c H locs 0 0 Q (F0 m 57 ls [.int y7]) := by
                intro y7 H locs ls hs hl hE
                have hE := hk6 _ hE
                refine lv_istore_n (lv' := [(2, .int y7), (0, .ref (g.2.1 0)), (1, .int v2), (3, .int v5)]) hx hb dX11_isToldAlready_57 rfl hl (by decide) rfl (fun ls hl => ?_)
                refine lv_iinc (v := v5 + 1) (lv' := [(3, .int (v5 + 1)), (2, .int y7), (0, .ref (g.2.1 0)), (1, .int v2)]) hx hb dX11_isToldAlready_58 hl (k := 3) rfl rfl (by decide) rfl (fun ls hl => ?_)
                refine lv_goto (tgt := 14) hx hb dX11_isToldAlready_61 (by decide) ?_
                exact ih _ _ _ _ hE hk _ _ _ hs (lv_sub hl [2, 3, 1, 0] rfl)
              refine jn0 hE (fun k8 hE hk8 => ?_)
              have hJk8 : ∀  (H : Heap) (locs : List Loc) (ls : Array Slot), HW 25 entM g A H0 H locs σ3 → lv_has ls 4 [(0, .ref (g.2.1 0)), (1, .int v2), (3, .int v5)] → k8 = some (σ', r) → W p l e (rmD 1) s m args below meth c H locs 0 0 Q (F0 m 56 ls []) := by
                intro H locs ls hs hl hE
                have hE := hk8 hE
                refine lv_iconst (v := 0) hx hb dX11_isToldAlready_56 (by decide) ?_
                exact hJk6 0 _ _ _ hs (lv_sub hl [0, 1, 2] rfl) hE
              refine lv_if_eq (tgt := 56) hx hb dX11_isToldAlready_21 (by decide) (fun hc => ?_) (fun hc => ?_)
              · have hE := if_t hc hE
                exact hJk8  _ _ _ hs (lv_sub hl [0, 1, 3] rfl) hE
              · have hE := if_f hc hE
                refine lv_aload_n hx hb dX11_isToldAlready_24 rfl (lv_at hl 0 rfl) ?_
                refine gf_X11_66_0 C hK hs dX11_isToldAlready_25 ?_
                refine lv_bipush (v := 7) hx hb dX11_isToldAlready_28 (by decide) ?_
                refine lv_iload_n hx hb dX11_isToldAlready_30 rfl (lv_at hl 1 rfl) ?_
                refine lv_imul hx hb dX11_isToldAlready_31 ?_
                refine lv_iload_n hx hb dX11_isToldAlready_32 rfl (lv_at hl 3 rfl) ?_
                refine lv_iadd hx hb dX11_isToldAlready_33 ?_
                obtain ⟨hi, x9, ex9, hE⟩ := rd_w hE
                refine y_ald layM C hK hs hi ex9 dX11_isToldAlready_34 ?_
                refine lv_aload_n hx hb dX11_isToldAlready_35 rfl (lv_at hl 0 rfl) ?_
                refine gf_X11_66_0 C hK hs dX11_isToldAlready_36 ?_
                refine lv_bipush (v := 7) hx hb dX11_isToldAlready_39 (by decide) ?_
                refine lv_aload_n hx hb dX11_isToldAlready_41 rfl (lv_at hl 0 rfl) ?_
                refine gf_X11_141_0 C hK hs dX11_isToldAlready_42 ?_
                refine lv_imul hx hb dX11_isToldAlready_45 ?_
                refine lv_iload_n hx hb dX11_isToldAlready_46 rfl (lv_at hl 3 rfl) ?_
                refine lv_iadd hx hb dX11_isToldAlready_47 ?_
                obtain ⟨hi, x10, ex10, hE⟩ := rd_w hE
                refine y_ald layM C hK hs hi ex10 dX11_isToldAlready_48 ?_
                refine lv_icmp_ne (tgt := 56) hx hb dX11_isToldAlready_49 (by decide) (fun hc => ?_) (fun hc => ?_)
                · have hE := if_f hc hE
                  exact hJk8  _ _ _ hs (lv_sub hl [0, 1, 3] rfl) hE
                · have hE := if_t hc hE
                  refine lv_iconst (v := 1) hx hb dX11_isToldAlready_52 (by decide) ?_
                  refine lv_goto (tgt := 57) hx hb dX11_isToldAlready_53 (by decide) ?_
                  exact hJk6 1 _ _ _ hs (lv_sub hl [0, 1, 3] rfl) hE
        refine hL14 _ _ _ _ _ hE (fun σ11 v12 v13 H locs ls hs hl hE => ?_) H locs ls hs (lv_sub hl [2, 3, 1, 0] rfl)
        refine lv_iload_n hx hb dX11_isToldAlready_64 rfl (lv_at hl 2 rfl) ?_
        refine lv_if_eq (tgt := 70) hx hb dX11_isToldAlready_65 (by decide) (fun hc => ?_) (fun hc => ?_)
        · have hE := if_t hc hE
          refine lv_iinc (v := v2 + 1) (lv' := [(1, .int (v2 + 1)), (0, .ref (g.2.1 0)), (2, .int v12), (3, .int v13)]) hx hb dX11_isToldAlready_70 hl (k := 1) rfl rfl (by decide) rfl (fun ls hl => ?_)
          refine lv_goto (tgt := 2) hx hb dX11_isToldAlready_73 (by decide) ?_
          exact ih _ _ _ hE hk _ _ _ hs (lv_sub hl [1, 0] rfl)
        · have hE := if_f hc hE
          refine lv_iconst (v := 1) hx hb dX11_isToldAlready_68 (by decide) ?_
          exact hQ hs rfl hE dX11_isToldAlready_69
  refine hL2 _ _ _ _ hE (fun σ14 v15 H locs ls hs hl hE => ?_) H locs ls hs (lv_sub hl [1, 0] rfl)
  refine lv_iconst (v := 0) hx hb dX11_isToldAlready_76 (by decide) ?_
  exact hQ hs rfl hE dX11_isToldAlready_77
