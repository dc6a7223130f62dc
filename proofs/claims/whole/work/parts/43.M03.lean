theorem dX11_paysBy_0 : decode cX11_paysBy 0 = .ok (.iload_n 0, 1) := by decide +kernel
theorem dX11_paysBy_1 : decode cX11_paysBy 1 = .ok (.iconst 2, 1) := by decide +kernel
theorem dX11_paysBy_2 : decode cX11_paysBy 2 = .ok (.if_icmp .ne 9, 3) := by decide +kernel
theorem dX11_paysBy_5 : decode cX11_paysBy 5 = .ok (.iconst 2, 1) := by decide +kernel
theorem dX11_paysBy_6 : decode cX11_paysBy 6 = .ok (.iload_n 1, 1) := by decide +kernel
theorem dX11_paysBy_7 : decode cX11_paysBy 7 = .ok (.imul, 1) := by decide +kernel
theorem dX11_paysBy_8 : decode cX11_paysBy 8 = .ok (.goto 36, 3) := by decide +kernel
theorem dX11_paysBy_11 : decode cX11_paysBy 11 = .ok (.iload_n 0, 1) := by decide +kernel
theorem dX11_paysBy_12 : decode cX11_paysBy 12 = .ok (.iconst 5, 1) := by decide +kernel
theorem dX11_paysBy_13 : decode cX11_paysBy 13 = .ok (.if_icmp .ne 14, 3) := by decide +kernel
theorem dX11_paysBy_16 : decode cX11_paysBy 16 = .ok (.bipush 9, 2) := by decide +kernel
theorem dX11_paysBy_18 : decode cX11_paysBy 18 = .ok (.iconst 2, 1) := by decide +kernel
theorem dX11_paysBy_19 : decode cX11_paysBy 19 = .ok (.iload_n 1, 1) := by decide +kernel
theorem dX11_paysBy_20 : decode cX11_paysBy 20 = .ok (.imul, 1) := by decide +kernel
theorem dX11_paysBy_21 : decode cX11_paysBy 21 = .ok (.invokestatic 177, 3) := by decide +kernel
theorem dX11_paysBy_24 : decode cX11_paysBy 24 = .ok (.goto 20, 3) := by decide +kernel
theorem dX11_paysBy_27 : decode cX11_paysBy 27 = .ok (.iload_n 0, 1) := by decide +kernel
theorem dX11_paysBy_28 : decode cX11_paysBy 28 = .ok (.iconst 3, 1) := by decide +kernel
theorem dX11_paysBy_29 : decode cX11_paysBy 29 = .ok (.if_icmp .ne 14, 3) := by decide +kernel
theorem dX11_paysBy_32 : decode cX11_paysBy 32 = .ok (.iload_n 1, 1) := by decide +kernel
theorem dX11_paysBy_33 : decode cX11_paysBy 33 = .ok (.iconst 1, 1) := by decide +kernel
theorem dX11_paysBy_34 : decode cX11_paysBy 34 = .ok (.if_icmp .le 9, 3) := by decide +kernel
theorem dX11_paysBy_37 : decode cX11_paysBy 37 = .ok (.iload_n 1, 1) := by decide +kernel
theorem dX11_paysBy_38 : decode cX11_paysBy 38 = .ok (.iconst 1, 1) := by decide +kernel
theorem dX11_paysBy_39 : decode cX11_paysBy 39 = .ok (.isub, 1) := by decide +kernel
theorem dX11_paysBy_40 : decode cX11_paysBy 40 = .ok (.goto 4, 3) := by decide +kernel
theorem dX11_paysBy_43 : decode cX11_paysBy 43 = .ok (.iload_n 1, 1) := by decide +kernel
theorem dX11_paysBy_44 : decode cX11_paysBy 44 = .ok (.ireturn, 1) := by decide +kernel
def fX11_paysBy (σ : St) (p0 : Int32) (p1 : Int32) : Option (St × Int32) := (if p0 = 2 then some (σ, 2 * p1) else (if p0 = 5 then cl (fX11_less σ 9 (2 * p1)) (fun σ1 r2 => some (σ1, r2)) else (if p0 = 3 then (if p1 ≤ 1 then some (σ, p1) else some (σ, p1 - 1)) else some (σ, p1))))
set_option maxHeartbeats 4000000 in
set_option maxRecDepth 100000 in
theorem ctX11_paysBy (l : Launch) (g : GG) (σ : St) (p0 : Int32) (p1 : Int32) (σ' : St) (r : Int32) (hE : fX11_paysBy σ p0 p1 = some (σ', r)) : MI 25 entM l g yX11_paysBy (Cond.code yX11_paysBy cX11_paysBy 2 (some .int) :: gtbl) (rmD 2) [.int p0, .int p1] σ σ' r := by
  refine mi_i (own := RX11) (lv := [(0, .int p0), (1, .int p1)]) (by decide) rfl (Nat.le_of_ble_eq_true rfl) rfl (fun p e s m below meth c ls args Q A H0 H locs C hK hA hQ hs hl => ?_)
  have hx := C.1
  have hb := C.2.1
  unfold fX11_paysBy at hE
  refine lv_iload_n hx hb dX11_paysBy_0 rfl (lv_at hl 0 rfl) ?_
  refine lv_iconst (v := 2) hx hb dX11_paysBy_1 (by decide) ?_
  refine lv_icmp_ne (tgt := 11) hx hb dX11_paysBy_2 (by decide) (fun hc => ?_) (fun hc => ?_)
  · have hE := if_f hc hE
    refine lv_iload_n hx hb dX11_paysBy_11 rfl (lv_at hl 0 rfl) ?_
    refine lv_iconst (v := 5) hx hb dX11_paysBy_12 (by decide) ?_
    refine lv_icmp_ne (tgt := 27) hx hb dX11_paysBy_13 (by decide) (fun hc => ?_) (fun hc => ?_)
    · have hE := if_f hc hE
      refine lv_iload_n hx hb dX11_paysBy_27 rfl (lv_at hl 0 rfl) ?_
      refine lv_iconst (v := 3) hx hb dX11_paysBy_28 (by decide) ?_
      refine lv_icmp_ne (tgt := 43) hx hb dX11_paysBy_29 (by decide) (fun hc => ?_) (fun hc => ?_)
      · have hE := if_f hc hE
        refine lv_iload_n hx hb dX11_paysBy_43 rfl (lv_at hl 1 rfl) ?_
        exact hQ hs hE dX11_paysBy_44
      · have hE := if_t hc hE
        refine lv_iload_n hx hb dX11_paysBy_32 rfl (lv_at hl 1 rfl) ?_
        refine lv_iconst (v := 1) hx hb dX11_paysBy_33 (by decide) ?_
        refine lv_icmp_le (tgt := 43) hx hb dX11_paysBy_34 (by decide) (fun hc => ?_) (fun hc => ?_)
        · have hE := if_t hc hE
          refine lv_iload_n hx hb dX11_paysBy_43 rfl (lv_at hl 1 rfl) ?_
          exact hQ hs hE dX11_paysBy_44
        · have hE := if_f hc hE
          refine lv_iload_n hx hb dX11_paysBy_37 rfl (lv_at hl 1 rfl) ?_
          refine lv_iconst (v := 1) hx hb dX11_paysBy_38 (by decide) ?_
          refine lv_isub hx hb dX11_paysBy_39 ?_
          refine lv_goto (tgt := 44) hx hb dX11_paysBy_40 (by decide) ?_
          exact hQ hs hE dX11_paysBy_44
    · have hE := if_t hc hE
      refine lv_bipush (v := 9) hx hb dX11_paysBy_16 (by decide) ?_
      refine lv_iconst (v := 2) hx hb dX11_paysBy_18 (by decide) ?_
      refine lv_iload_n hx hb dX11_paysBy_19 rfl (lv_at hl 1 rfl) ?_
      refine lv_imul hx hb dX11_paysBy_20 ?_
      obtain ⟨σ1, r2, hE1, hE⟩ := cl_e hE
      refine x_cis (As := [.int 9, .int (2 * p1)]) (rest := []) C hl.1 hK hs hA ⟨Nat.le_refl 0, Nat.le_refl 0⟩ (ctX11_less l g _ _ _ _ _ hE1) (cw_X11_177 C ⟨Nat.le_of_ble_eq_true rfl, Nat.le_of_ble_eq_true rfl⟩) rfl rfl (Nat.le_of_ble_eq_true rfl) dX11_paysBy_21 (fun H locs hs => ?_)
      refine lv_goto (tgt := 44) hx hb dX11_paysBy_24 (by decide) ?_
      exact hQ hs hE dX11_paysBy_44
  · have hE := if_t hc hE
    refine lv_iconst (v := 2) hx hb dX11_paysBy_5 (by decide) ?_
    refine lv_iload_n hx hb dX11_paysBy_6 rfl (lv_at hl 1 rfl) ?_
    refine lv_imul hx hb dX11_paysBy_7 ?_
    refine lv_goto (tgt := 44) hx hb dX11_paysBy_8 (by decide) ?_
    exact hQ hs hE dX11_paysBy_44
theorem dX11_pays_0 : decode cX11_pays 0 = .ok (.aload_n 0, 1) := by decide +kernel
theorem dX11_pays_1 : decode cX11_pays 1 = .ok (.getfield 22, 3) := by decide +kernel
theorem dX11_pays_4 : decode cX11_pays 4 = .ok (.iload_n 1, 1) := by decide +kernel
theorem dX11_pays_5 : decode cX11_pays 5 = .ok (.iaload, 1) := by decide +kernel
theorem dX11_pays_6 : decode cX11_pays 6 = .ok (.aload_n 0, 1) := by decide +kernel
theorem dX11_pays_7 : decode cX11_pays 7 = .ok (.getfield 31, 3) := by decide +kernel
theorem dX11_pays_10 : decode cX11_pays 10 = .ok (.iload_n 2, 1) := by decide +kernel
theorem dX11_pays_11 : decode cX11_pays 11 = .ok (.iaload, 1) := by decide +kernel
theorem dX11_pays_12 : decode cX11_pays 12 = .ok (.invokestatic 181, 3) := by decide +kernel
theorem dX11_pays_15 : decode cX11_pays 15 = .ok (.ireturn, 1) := by decide +kernel
def fX11_pays (σ : St) (p1 : Int32) (p2 : Int32) : Option (St × Int32) := rd LM σ 5 p1 (fun x1 => rd LM σ 8 p2 (fun x2 => cl (fX11_paysBy σ x1 x2) (fun σ3 r4 => some (σ3, r4))))
set_option maxHeartbeats 4000000 in
set_option maxRecDepth 100000 in
theorem ctX11_pays (l : Launch) (g : GG) (σ : St) (p1 : Int32) (p2 : Int32) (σ' : St) (r : Int32) (hE : fX11_pays σ p1 p2 = some (σ', r)) : MI 25 entM l g yX11_pays (Cond.code yX11_pays cX11_pays 3 (some .int) :: gtbl) (rmD 3) [.ref (g.2.1 0), .int p1, .int p2] σ σ' r := by
  refine mi_i (own := RX11) (lv := [(0, .ref (g.2.1 0)), (1, .int p1), (2, .int p2)]) (by decide) rfl (Nat.le_of_ble_eq_true rfl) rfl (fun p e s m below meth c ls args Q A H0 H locs C hK hA hQ hs hl => ?_)
  have hx := C.1
  have hb := C.2.1
  unfold fX11_pays at hE
  refine lv_aload_n hx hb dX11_pays_0 rfl (lv_at hl 0 rfl) ?_
  refine gf_X11_22_0 C hK hs dX11_pays_1 ?_
  refine lv_iload_n hx hb dX11_pays_4 rfl (lv_at hl 1 rfl) ?_
  obtain ⟨hi, x1, ex1, hE⟩ := rd_w hE
  refine y_ald layM C hK hs hi ex1 dX11_pays_5 ?_
  refine lv_aload_n hx hb dX11_pays_6 rfl (lv_at hl 0 rfl) ?_
  refine gf_X11_31_0 C hK hs dX11_pays_7 ?_
  refine lv_iload_n hx hb dX11_pays_10 rfl (lv_at hl 2 rfl) ?_
  obtain ⟨hi, x2, ex2, hE⟩ := rd_w hE
  refine y_ald layM C hK hs hi ex2 dX11_pays_11 ?_
  obtain ⟨σ3, r4, hE1, hE⟩ := cl_e hE
  refine x_cis (As := [.int x1, .int x2]) (rest := []) C hl.1 hK hs hA ⟨Nat.le_refl 0, Nat.le_refl 0⟩ (ctX11_paysBy l g _ _ _ _ _ hE1) (cw_X11_181 C ⟨Nat.le_of_ble_eq_true rfl, Nat.le_of_ble_eq_true rfl⟩) rfl rfl (Nat.le_of_ble_eq_true rfl) dX11_pays_12 (fun H locs hs => ?_)
  exact hQ hs hE dX11_pays_15
theorem dX11_monthsOf_0 : decode cX11_monthsOf 0 = .ok (.aload_n 0, 1) := by decide +kernel
theorem dX11_monthsOf_1 : decode cX11_monthsOf 1 = .ok (.getfield 34, 3) := by decide +kernel
theorem dX11_monthsOf_4 : decode cX11_monthsOf 4 = .ok (.iload_n 2, 1) := by decide +kernel
theorem dX11_monthsOf_5 : decode cX11_monthsOf 5 = .ok (.iaload, 1) := by decide +kernel
theorem dX11_monthsOf_6 : decode cX11_monthsOf 6 = .ok (.aload_n 0, 1) := by decide +kernel
theorem dX11_monthsOf_7 : decode cX11_monthsOf 7 = .ok (.getfield 22, 3) := by decide +kernel
theorem dX11_monthsOf_10 : decode cX11_monthsOf 10 = .ok (.iload_n 1, 1) := by decide +kernel
theorem dX11_monthsOf_11 : decode cX11_monthsOf 11 = .ok (.iaload, 1) := by decide +kernel
theorem dX11_monthsOf_12 : decode cX11_monthsOf 12 = .ok (.iconst 3, 1) := by decide +kernel
theorem dX11_monthsOf_13 : decode cX11_monthsOf 13 = .ok (.if_icmp .ne 7, 3) := by decide +kernel
theorem dX11_monthsOf_16 : decode cX11_monthsOf 16 = .ok (.iconst 1, 1) := by decide +kernel
theorem dX11_monthsOf_17 : decode cX11_monthsOf 17 = .ok (.goto 18, 3) := by decide +kernel
theorem dX11_monthsOf_20 : decode cX11_monthsOf 20 = .ok (.aload_n 0, 1) := by decide +kernel
theorem dX11_monthsOf_21 : decode cX11_monthsOf 21 = .ok (.getfield 22, 3) := by decide +kernel
theorem dX11_monthsOf_24 : decode cX11_monthsOf 24 = .ok (.iload_n 1, 1) := by decide +kernel
theorem dX11_monthsOf_25 : decode cX11_monthsOf 25 = .ok (.iaload, 1) := by decide +kernel
theorem dX11_monthsOf_26 : decode cX11_monthsOf 26 = .ok (.iconst 5, 1) := by decide +kernel
theorem dX11_monthsOf_27 : decode cX11_monthsOf 27 = .ok (.if_icmp .ne 7, 3) := by decide +kernel
theorem dX11_monthsOf_30 : decode cX11_monthsOf 30 = .ok (.iconst 2, 1) := by decide +kernel
theorem dX11_monthsOf_31 : decode cX11_monthsOf 31 = .ok (.goto 4, 3) := by decide +kernel
theorem dX11_monthsOf_34 : decode cX11_monthsOf 34 = .ok (.iconst 0, 1) := by decide +kernel
theorem dX11_monthsOf_35 : decode cX11_monthsOf 35 = .ok (.iadd, 1) := by decide +kernel
theorem dX11_monthsOf_36 : decode cX11_monthsOf 36 = .ok (.ireturn, 1) := by decide +kernel
def fX11_monthsOf (σ : St) (p1 : Int32) (p2 : Int32) : Option (St × Int32) := rd LM σ 9 p2 (fun x1 => rd LM σ 5 p1 (fun x2 => jn (fun (y4 : Int32) => some (σ, x1 + y4)) (fun k3 => (if x2 = 3 then k3 1 else rd LM σ 5 p1 (fun x5 => (if x5 = 5 then k3 2 else k3 0))))))
set_option maxHeartbeats 4000000 in
set_option maxRecDepth 100000 in
theorem ctX11_monthsOf (l : Launch) (g : GG) (σ : St) (p1 : Int32) (p2 : Int32) (σ' : St) (r : Int32) (hE : fX11_monthsOf σ p1 p2 = some (σ', r)) : MI 25 entM l g yX11_monthsOf (Cond.code yX11_monthsOf cX11_monthsOf 3 (some .int) :: gtbl) (rmD 1) [.ref (g.2.1 0), .int p1, .int p2] σ σ' r := by
  refine mi_i (own := RX11) (lv := [(0, .ref (g.2.1 0)), (1, .int p1), (2, .int p2)]) (by decide) rfl (Nat.le_of_ble_eq_true rfl) rfl (fun p e s m below meth c ls args Q A H0 H locs C hK hA hQ hs hl => ?_)
  have hx := C.1
  have hb := C.2.1
  unfold fX11_monthsOf at hE
  refine lv_aload_n hx hb dX11_monthsOf_0 rfl (lv_at hl 0 rfl) ?_
  refine gf_X11_34_0 C hK hs dX11_monthsOf_1 ?_
  refine lv_iload_n hx hb dX11_monthsOf_4 rfl (lv_at hl 2 rfl) ?_
  obtain ⟨hi, x1, ex1, hE⟩ := rd_w hE
  refine y_ald layM C hK hs hi ex1 dX11_monthsOf_5 ?_
  refine lv_aload_n hx hb dX11_monthsOf_6 rfl (lv_at hl 0 rfl) ?_
  refine gf_X11_22_0 C hK hs dX11_monthsOf_7 ?_
  refine lv_iload_n hx hb dX11_monthsOf_10 rfl (lv_at hl 1 rfl) ?_
  obtain ⟨hi, x2, ex2, hE⟩ := rd_w hE
  refine y_ald layM C hK hs hi ex2 dX11_monthsOf_11 ?_
  refine lv_iconst (v := 3) hx hb dX11_monthsOf_12 (by decide) ?_
  refine jn1 hE (fun k3 hE hk3 => ?_)
  have hJk3 : ∀ (y4 : Int32) (H : Heap) (locs : List Loc) (ls : Array Slot), HW 25 entM g A H0 H locs σ → lv_has ls 3 [] → k3 y4 = some (σ', r) → W p l e (rmD 1) s m args below meth c H locs 0 0 Q (F0 m 35 ls [.int y4, .int x1]) := by
    intro y4 H locs ls hs hl hE
    have hE := hk3 _ hE
    refine lv_iadd hx hb dX11_monthsOf_35 ?_
    exact hQ hs hE dX11_monthsOf_36
  refine lv_icmp_ne (tgt := 20) hx hb dX11_monthsOf_13 (by decide) (fun hc => ?_) (fun hc => ?_)
  · have hE := if_f hc hE
    refine lv_aload_n hx hb dX11_monthsOf_20 rfl (lv_at hl 0 rfl) ?_
    refine gf_X11_22_0 C hK hs dX11_monthsOf_21 ?_
    refine lv_iload_n hx hb dX11_monthsOf_24 rfl (lv_at hl 1 rfl) ?_
    obtain ⟨hi, x5, ex5, hE⟩ := rd_w hE
    refine y_ald layM C hK hs hi ex5 dX11_monthsOf_25 ?_
    refine lv_iconst (v := 5) hx hb dX11_monthsOf_26 (by decide) ?_
    refine lv_icmp_ne (tgt := 34) hx hb dX11_monthsOf_27 (by decide) (fun hc => ?_) (fun hc => ?_)
    · have hE := if_f hc hE
      refine lv_iconst (v := 0) hx hb dX11_monthsOf_34 (by decide) ?_
      exact hJk3 0 _ _ _ hs (lv_sub hl [] rfl) hE
    · have hE := if_t hc hE
      refine lv_iconst (v := 2) hx hb dX11_monthsOf_30 (by decide) ?_
      refine lv_goto (tgt := 35) hx hb dX11_monthsOf_31 (by decide) ?_
      exact hJk3 2 _ _ _ hs (lv_sub hl [] rfl) hE
  · have hE := if_t hc hE
    refine lv_iconst (v := 1) hx hb dX11_monthsOf_16 (by decide) ?_
    refine lv_goto (tgt := 35) hx hb dX11_monthsOf_17 (by decide) ?_
    exact hJk3 1 _ _ _ hs (lv_sub hl [] rfl) hE
theorem dX11_nextPurse_0 : decode cX11_nextPurse 0 = .ok (.iload_n 0, 1) := by decide +kernel
theorem dX11_nextPurse_1 : decode cX11_nextPurse 1 = .ok (.tableswitch 68 1 5 #[35, 68, 68, 44, 57], 35) := by decide +kernel
theorem dX11_nextPurse_36 : decode cX11_nextPurse 36 = .ok (.bipush 99, 2) := by decide +kernel
theorem dX11_nextPurse_38 : decode cX11_nextPurse 38 = .ok (.iload_n 1, 1) := by decide +kernel
theorem dX11_nextPurse_39 : decode cX11_nextPurse 39 = .ok (.iload_n 2, 1) := by decide +kernel
theorem dX11_nextPurse_40 : decode cX11_nextPurse 40 = .ok (.iadd, 1) := by decide +kernel
theorem dX11_nextPurse_41 : decode cX11_nextPurse 41 = .ok (.invokestatic 177, 3) := by decide +kernel
theorem dX11_nextPurse_44 : decode cX11_nextPurse 44 = .ok (.ireturn, 1) := by decide +kernel
theorem dX11_nextPurse_45 : decode cX11_nextPurse 45 = .ok (.bipush 99, 2) := by decide +kernel
theorem dX11_nextPurse_47 : decode cX11_nextPurse 47 = .ok (.iload_n 1, 1) := by decide +kernel
theorem dX11_nextPurse_48 : decode cX11_nextPurse 48 = .ok (.iload_n 1, 1) := by decide +kernel
theorem dX11_nextPurse_49 : decode cX11_nextPurse 49 = .ok (.iconst 5, 1) := by decide +kernel
theorem dX11_nextPurse_50 : decode cX11_nextPurse 50 = .ok (.idiv, 1) := by decide +kernel
theorem dX11_nextPurse_51 : decode cX11_nextPurse 51 = .ok (.iadd, 1) := by decide +kernel
theorem dX11_nextPurse_52 : decode cX11_nextPurse 52 = .ok (.iload_n 2, 1) := by decide +kernel
theorem dX11_nextPurse_53 : decode cX11_nextPurse 53 = .ok (.iadd, 1) := by decide +kernel
theorem dX11_nextPurse_54 : decode cX11_nextPurse 54 = .ok (.invokestatic 177, 3) := by decide +kernel
theorem dX11_nextPurse_57 : decode cX11_nextPurse 57 = .ok (.ireturn, 1) := by decide +kernel
theorem dX11_nextPurse_58 : decode cX11_nextPurse 58 = .ok (.bipush 99, 2) := by decide +kernel
theorem dX11_nextPurse_60 : decode cX11_nextPurse 60 = .ok (.iload_n 1, 1) := by decide +kernel
theorem dX11_nextPurse_61 : decode cX11_nextPurse 61 = .ok (.iconst 2, 1) := by decide +kernel
theorem dX11_nextPurse_62 : decode cX11_nextPurse 62 = .ok (.idiv, 1) := by decide +kernel
theorem dX11_nextPurse_63 : decode cX11_nextPurse 63 = .ok (.iload_n 2, 1) := by decide +kernel
theorem dX11_nextPurse_64 : decode cX11_nextPurse 64 = .ok (.iadd, 1) := by decide +kernel
theorem dX11_nextPurse_65 : decode cX11_nextPurse 65 = .ok (.invokestatic 177, 3) := by decide +kernel
theorem dX11_nextPurse_68 : decode cX11_nextPurse 68 = .ok (.ireturn, 1) := by decide +kernel
theorem dX11_nextPurse_69 : decode cX11_nextPurse 69 = .ok (.iload_n 2, 1) := by decide +kernel
theorem dX11_nextPurse_70 : decode cX11_nextPurse 70 = .ok (.ireturn, 1) := by decide +kernel
def fX11_nextPurse (σ : St) (p0 : Int32) (p1 : Int32) (p2 : Int32) : Option (St × Int32) := (if p0 = 1 then cl (fX11_less σ 99 (p1 + p2)) (fun σ1 r2 => some (σ1, r2)) else (if p0 = 4 then cl (fX11_less σ 99 ((p1 + (p1 / 5)) + p2)) (fun σ3 r4 => some (σ3, r4)) else (if p0 = 5 then cl (fX11_less σ 99 ((p1 / 2) + p2)) (fun σ5 r6 => some (σ5, r6)) else some (σ, p2))))
set_option maxHeartbeats 4000000 in
set_option maxRecDepth 100000 in
theorem ctX11_nextPurse (l : Launch) (g : GG) (σ : St) (p0 : Int32) (p1 : Int32) (p2 : Int32) (σ' : St) (r : Int32) (hE : fX11_nextPurse σ p0 p1 p2 = some (σ', r)) : MI 25 entM l g yX11_nextPurse (Cond.code yX11_nextPurse cX11_nextPurse 3 (some .int) :: gtbl) (rmD 2) [.int p0, .int p1, .int p2] σ σ' r := by
  refine mi_i (own := RX11) (lv := [(0, .int p0), (1, .int p1), (2, .int p2)]) (by decide) rfl (Nat.le_of_ble_eq_true rfl) rfl (fun p e s m below meth c ls args Q A H0 H locs C hK hA hQ hs hl => ?_)
  have hx := C.1
  have hb := C.2.1
  unfold fX11_nextPurse at hE
  refine lv_iload_n hx hb dX11_nextPurse_0 rfl (lv_at hl 0 rfl) ?_
  by_cases hn1 : p0 = 1
  · have hE := if_t hn1 hE
    refine lv_tableIn (off := 35) (tgt := 36) hx hb dX11_nextPurse_1 (by rw [hn1]; decide) (by rw [hn1]; decide) (by rw [hn1]; decide) (by decide) ?_
    refine lv_bipush (v := 99) hx hb dX11_nextPurse_36 (by decide) ?_
    refine lv_iload_n hx hb dX11_nextPurse_38 rfl (lv_at hl 1 rfl) ?_
    refine lv_iload_n hx hb dX11_nextPurse_39 rfl (lv_at hl 2 rfl) ?_
    refine lv_iadd hx hb dX11_nextPurse_40 ?_
    obtain ⟨σ1, r2, hE1, hE⟩ := cl_e hE
    refine x_cis (As := [.int 99, .int (p1 + p2)]) (rest := []) C hl.1 hK hs hA ⟨Nat.le_refl 0, Nat.le_refl 0⟩ (ctX11_less l g _ _ _ _ _ hE1) (cw_X11_177 C ⟨Nat.le_of_ble_eq_true rfl, Nat.le_of_ble_eq_true rfl⟩) rfl rfl (Nat.le_of_ble_eq_true rfl) dX11_nextPurse_41 (fun H locs hs => ?_)
    exact hQ hs hE dX11_nextPurse_44
  have hE := if_f hn1 hE
  by_cases hn4 : p0 = 4
  · have hE := if_t hn4 hE
    refine lv_tableIn (off := 44) (tgt := 45) hx hb dX11_nextPurse_1 (by rw [hn4]; decide) (by rw [hn4]; decide) (by rw [hn4]; decide) (by decide) ?_
    refine lv_bipush (v := 99) hx hb dX11_nextPurse_45 (by decide) ?_
    refine lv_iload_n hx hb dX11_nextPurse_47 rfl (lv_at hl 1 rfl) ?_
    refine lv_iload_n hx hb dX11_nextPurse_48 rfl (lv_at hl 1 rfl) ?_
    refine lv_iconst (v := 5) hx hb dX11_nextPurse_49 (by decide) ?_
    refine lv_idiv hx hb dX11_nextPurse_50 (by decide) ?_
    refine lv_iadd hx hb dX11_nextPurse_51 ?_
    refine lv_iload_n hx hb dX11_nextPurse_52 rfl (lv_at hl 2 rfl) ?_
    refine lv_iadd hx hb dX11_nextPurse_53 ?_
    obtain ⟨σ3, r4, hE1, hE⟩ := cl_e hE
    refine x_cis (As := [.int 99, .int ((p1 + (p1 / 5)) + p2)]) (rest := []) C hl.1 hK hs hA ⟨Nat.le_refl 0, Nat.le_refl 0⟩ (ctX11_less l g _ _ _ _ _ hE1) (cw_X11_177 C ⟨Nat.le_of_ble_eq_true rfl, Nat.le_of_ble_eq_true rfl⟩) rfl rfl (Nat.le_of_ble_eq_true rfl) dX11_nextPurse_54 (fun H locs hs => ?_)
    exact hQ hs hE dX11_nextPurse_57
  have hE := if_f hn4 hE
  by_cases hn5 : p0 = 5
  · have hE := if_t hn5 hE
    refine lv_tableIn (off := 57) (tgt := 58) hx hb dX11_nextPurse_1 (by rw [hn5]; decide) (by rw [hn5]; decide) (by rw [hn5]; decide) (by decide) ?_
    refine lv_bipush (v := 99) hx hb dX11_nextPurse_58 (by decide) ?_
    refine lv_iload_n hx hb dX11_nextPurse_60 rfl (lv_at hl 1 rfl) ?_
    refine lv_iconst (v := 2) hx hb dX11_nextPurse_61 (by decide) ?_
    refine lv_idiv hx hb dX11_nextPurse_62 (by decide) ?_
    refine lv_iload_n hx hb dX11_nextPurse_63 rfl (lv_at hl 2 rfl) ?_
    refine lv_iadd hx hb dX11_nextPurse_64 ?_
    obtain ⟨σ5, r6, hE1, hE⟩ := cl_e hE
    refine x_cis (As := [.int 99, .int ((p1 / 2) + p2)]) (rest := []) C hl.1 hK hs hA ⟨Nat.le_refl 0, Nat.le_refl 0⟩ (ctX11_less l g _ _ _ _ _ hE1) (cw_X11_177 C ⟨Nat.le_of_ble_eq_true rfl, Nat.le_of_ble_eq_true rfl⟩) rfl rfl (Nat.le_of_ble_eq_true rfl) dX11_nextPurse_65 (fun H locs hs => ?_)
    exact hQ hs hE dX11_nextPurse_68
  have hE := if_f hn5 hE
  have hDf : W p l e (rmD 2) s m args below meth c H locs 0 0 Q (F0 m 69 ls []) := by
    refine lv_iload_n hx hb dX11_nextPurse_69 rfl (lv_at hl 2 rfl) ?_
    exact hQ hs hE dX11_nextPurse_70
  by_cases hn2 : p0 = 2
  · exact lv_tableIn (off := 68) (tgt := 69) hx hb dX11_nextPurse_1 (by rw [hn2]; decide) (by rw [hn2]; decide) (by rw [hn2]; decide) (by decide) hDf
  by_cases hn3 : p0 = 3
  · exact lv_tableIn (off := 68) (tgt := 69) hx hb dX11_nextPurse_1 (by rw [hn3]; decide) (by rw [hn3]; decide) (by rw [hn3]; decide) (by decide) hDf
  exact lv_tableOut (tgt := 69) hx hb dX11_nextPurse_1 (by have q0 := sw_n 1 hn1 (by decide); have q1 := sw_n 2 hn2 (by decide); have q2 := sw_n 3 hn3 (by decide); have q3 := sw_n 4 hn4 (by decide); have q4 := sw_n 5 hn5 (by decide); omega) (by decide) hDf
theorem dX11_nameSize_0 : decode cX11_nameSize 0 = .ok (.iconst 0, 1) := by decide +kernel
theorem dX11_nameSize_1 : decode cX11_nameSize 1 = .ok (.istore_n 2, 1) := by decide +kernel
theorem dX11_nameSize_2 : decode cX11_nameSize 2 = .ok (.iload_n 2, 1) := by decide +kernel
theorem dX11_nameSize_3 : decode cX11_nameSize 3 = .ok (.bipush 7, 2) := by decide +kernel
theorem dX11_nameSize_5 : decode cX11_nameSize 5 = .ok (.if_icmp .ge 23, 3) := by decide +kernel
theorem dX11_nameSize_8 : decode cX11_nameSize 8 = .ok (.aload_n 0, 1) := by decide +kernel
theorem dX11_nameSize_9 : decode cX11_nameSize 9 = .ok (.getfield 28, 3) := by decide +kernel
theorem dX11_nameSize_12 : decode cX11_nameSize 12 = .ok (.bipush 7, 2) := by decide +kernel
theorem dX11_nameSize_14 : decode cX11_nameSize 14 = .ok (.iload_n 1, 1) := by decide +kernel
theorem dX11_nameSize_15 : decode cX11_nameSize 15 = .ok (.imul, 1) := by decide +kernel
theorem dX11_nameSize_16 : decode cX11_nameSize 16 = .ok (.iload_n 2, 1) := by decide +kernel
theorem dX11_nameSize_17 : decode cX11_nameSize 17 = .ok (.iadd, 1) := by decide +kernel
theorem dX11_nameSize_18 : decode cX11_nameSize 18 = .ok (.iaload, 1) := by decide +kernel
theorem dX11_nameSize_19 : decode cX11_nameSize 19 = .ok (.ifCond .eq 9, 3) := by decide +kernel
theorem dX11_nameSize_22 : decode cX11_nameSize 22 = .ok (.iinc 2 1, 3) := by decide +kernel
theorem dX11_nameSize_25 : decode cX11_nameSize 25 = .ok (.goto (-23), 3) := by decide +kernel
theorem dX11_nameSize_28 : decode cX11_nameSize 28 = .ok (.iload_n 2, 1) := by decide +kernel
theorem dX11_nameSize_29 : decode cX11_nameSize 29 = .ok (.ireturn, 1) := by decide +kernel
def fX11_nameSize_L2 (p1 : Int32) : Nat → St → Int32 → (St → Int32 → Option (St × Int32)) → Option (St × Int32)
  | 0, _, _, _ => none
  | n + 1, σ1, v2, k => (if 7 ≤ v2 then k σ1 v2 else rd LM σ1 7 ((7 * p1) + v2) (fun x3 => (if x3 = 0 then k σ1 v2 else fX11_nameSize_L2 p1 n σ1 (v2 + 1) k)))
def fX11_nameSize (σ : St) (p1 : Int32) : Option (St × Int32) := fX11_nameSize_L2 p1 10000 σ 0 (fun σ4 v5 => some (σ4, v5))
set_option maxHeartbeats 4000000 in
set_option maxRecDepth 100000 in
theorem ctX11_nameSize (l : Launch) (g : GG) (σ : St) (p1 : Int32) (σ' : St) (r : Int32) (hE : fX11_nameSize σ p1 = some (σ', r)) : MI 25 entM l g yX11_nameSize (Cond.code yX11_nameSize cX11_nameSize 3 (some .int) :: gtbl) (rmD 1) [.ref (g.2.1 0), .int p1] σ σ' r := by
  refine mi_i (own := RX11) (lv := [(0, .ref (g.2.1 0)), (1, .int p1)]) (by decide) rfl (Nat.le_of_ble_eq_true rfl) rfl (fun p e s m below meth c ls args Q A H0 H locs C hK hA hQ hs hl => ?_)
  have hx := C.1
  have hb := C.2.1
  unfold fX11_nameSize at hE
  refine lv_iconst (v := 0) hx hb dX11_nameSize_0 (by decide) ?_
  refine lv_istore_n (lv' := [(2, .int 0), (0, .ref (g.2.1 0)), (1, .int p1)]) hx hb dX11_nameSize_1 rfl hl (by decide) rfl (fun ls hl => ?_)
  have hL2 : ∀ (n : Nat) (σ1 : St) (v2 : Int32) (k : St → Int32 → Option (St × Int32)), fX11_nameSize_L2 p1 n σ1 v2 k = some (σ', r) → (∀ (σ1 : St) (v2 : Int32) (H : Heap) (locs : List Loc) (ls : Array Slot), HW 25 entM g A H0 H locs σ1 → lv_has ls 3 [(0, .ref (g.2.1 0)), (1, .int p1), (2, .int v2)] → k σ1 v2 = some (σ', r) → W p l e (rmD 1) s m args below meth c H locs 0 0 Q (F0 m 28 ls [])) → ∀ (H : Heap) (locs : List Loc) (ls : Array Slot), HW 25 entM g A H0 H locs σ1 → lv_has ls 3 [(0, .ref (g.2.1 0)), (1, .int p1), (2, .int v2)] → W p l e (rmD 1) s m args below meth c H locs 0 0 Q (F0 m 2 ls []) := by
    intro n
    induction n with
    | zero =>
      intro σ1 v2 k hE
      rw [fX11_nameSize_L2] at hE
      exact no_e hE
    | succ n ih =>
      intro σ1 v2 k hE hk H locs ls hs hl
      rw [fX11_nameSize_L2] at hE
      refine lv_iload_n hx hb dX11_nameSize_2 rfl (lv_at hl 2 rfl) ?_
      refine lv_bipush (v := 7) hx hb dX11_nameSize_3 (by decide) ?_
      refine lv_icmp_ge (tgt := 28) hx hb dX11_nameSize_5 (by decide) (fun hc => ?_) (fun hc => ?_)
      · have hE := if_t hc hE
        exact hk σ1 v2 _ _ _ hs (lv_sub hl [0, 1, 2] rfl) hE
      · have hE := if_f hc hE
        refine lv_aload_n hx hb dX11_nameSize_8 rfl (lv_at hl 0 rfl) ?_
        refine gf_X11_28_0 C hK hs dX11_nameSize_9 ?_
        refine lv_bipush (v := 7) hx hb dX11_nameSize_12 (by decide) ?_
        refine lv_iload_n hx hb dX11_nameSize_14 rfl (lv_at hl 1 rfl) ?_
        refine lv_imul hx hb dX11_nameSize_15 ?_
        refine lv_iload_n hx hb dX11_nameSize_16 rfl (lv_at hl 2 rfl) ?_
        refine lv_iadd hx hb dX11_nameSize_17 ?_
        obtain ⟨hi, x3, ex3, hE⟩ := rd_w hE
        refine y_ald layM C hK hs hi ex3 dX11_nameSize_18 ?_
        refine lv_if_eq (tgt := 28) hx hb dX11_nameSize_19 (by decide) (fun hc => ?_) (fun hc => ?_)
        · have hE := if_t hc hE
          exact hk σ1 v2 _ _ _ hs (lv_sub hl [0, 1, 2] rfl) hE
        · have hE := if_f hc hE
          refine lv_iinc (v := v2 + 1) (lv' := [(2, .int (v2 + 1)), (0, .ref (g.2.1 0)), (1, .int p1)]) hx hb dX11_nameSize_22 hl (k := 2) rfl rfl (by decide) rfl (fun ls hl => ?_)
          refine lv_goto (tgt := 2) hx hb dX11_nameSize_25 (by decide) ?_
          exact ih _ _ _ hE hk _ _ _ hs (lv_sub hl [1, 2, 0] rfl)
  refine hL2 _ _ _ _ hE (fun σ4 v5 H locs ls hs hl hE => ?_) H locs ls hs (lv_sub hl [1, 2, 0] rfl)
  refine lv_iload_n hx hb dX11_nameSize_28 rfl (lv_at hl 2 rfl) ?_
  exact hQ hs hE dX11_nameSize_29
theorem dX11_owns_0 : decode cX11_owns 0 = .ok (.aload_n 0, 1) := by decide +kernel
theorem dX11_owns_1 : decode cX11_owns 1 = .ok (.bipush 7, 2) := by decide +kernel
theorem dX11_owns_3 : decode cX11_owns 3 = .ok (.bipush 8, 2) := by decide +kernel
theorem dX11_owns_5 : decode cX11_owns 5 = .ok (.iload_n 1, 1) := by decide +kernel
theorem dX11_owns_6 : decode cX11_owns 6 = .ok (.imul, 1) := by decide +kernel
theorem dX11_owns_7 : decode cX11_owns 7 = .ok (.iadd, 1) := by decide +kernel
theorem dX11_owns_8 : decode cX11_owns 8 = .ok (.iload_n 2, 1) := by decide +kernel
theorem dX11_owns_9 : decode cX11_owns 9 = .ok (.iadd, 1) := by decide +kernel
theorem dX11_owns_10 : decode cX11_owns 10 = .ok (.iaload, 1) := by decide +kernel
theorem dX11_owns_11 : decode cX11_owns 11 = .ok (.ifCond .le 7, 3) := by decide +kernel
theorem dX11_owns_14 : decode cX11_owns 14 = .ok (.iconst 1, 1) := by decide +kernel
theorem dX11_owns_15 : decode cX11_owns 15 = .ok (.goto 4, 3) := by decide +kernel
theorem dX11_owns_18 : decode cX11_owns 18 = .ok (.iconst 0, 1) := by decide +kernel
theorem dX11_owns_19 : decode cX11_owns 19 = .ok (.ireturn, 1) := by decide +kernel
def fX11_owns (σ : St) (p0 : Nat) (p1 : Int32) (p2 : Int32) : Option (St × Int32) := rd LM σ p0 ((7 + (8 * p1)) + p2) (fun x1 => (if x1 ≤ 0 then some (σ, 0) else some (σ, 1)))
set_option maxHeartbeats 4000000 in
set_option maxRecDepth 100000 in
theorem ctX11_owns (l : Launch) (g : GG) (σ : St) (p0 : Nat) (p1 : Int32) (p2 : Int32) (σ' : St) (r : Int32) (hE : fX11_owns σ p0 p1 p2 = some (σ', r)) : MI 25 entM l g yX11_owns (Cond.code yX11_owns cX11_owns 3 (some .boolean) :: gtbl) (rmD 1) [.ref (g.2.1 p0), .int p1, .int p2] σ σ' r := by
  refine mi_z (own := RX11) (lv := [(0, .ref (g.2.1 p0)), (1, .int p1), (2, .int p2)]) (by decide) rfl (Nat.le_of_ble_eq_true rfl) rfl (fun p e s m below meth c ls args Q A H0 H locs C hK hA hQ hs hl => ?_)
  have hx := C.1
  have hb := C.2.1
  unfold fX11_owns at hE
  refine lv_aload_n hx hb dX11_owns_0 rfl (lv_at hl 0 rfl) ?_
  refine lv_bipush (v := 7) hx hb dX11_owns_1 (by decide) ?_
  refine lv_bipush (v := 8) hx hb dX11_owns_3 (by decide) ?_
  refine lv_iload_n hx hb dX11_owns_5 rfl (lv_at hl 1 rfl) ?_
  refine lv_imul hx hb dX11_owns_6 ?_
  refine lv_iadd hx hb dX11_owns_7 ?_
  refine lv_iload_n hx hb dX11_owns_8 rfl (lv_at hl 2 rfl) ?_
  refine lv_iadd hx hb dX11_owns_9 ?_
  obtain ⟨hi, x1, ex1, hE⟩ := rd_w hE
  refine y_ald layM C hK hs hi ex1 dX11_owns_10 ?_
  refine lv_if_le (tgt := 18) hx hb dX11_owns_11 (by decide) (fun hc => ?_) (fun hc => ?_)
  · have hE := if_t hc hE
    refine lv_iconst (v := 0) hx hb dX11_owns_18 (by decide) ?_
    exact hQ hs rfl hE dX11_owns_19
  · have hE := if_f hc hE
    refine lv_iconst (v := 1) hx hb dX11_owns_14 (by decide) ?_
    refine lv_goto (tgt := 19) hx hb dX11_owns_15 (by decide) ?_
    exact hQ hs rfl hE dX11_owns_19
theorem dX11_colourTold_0 : decode cX11_colourTold 0 = .ok (.iload_n 2, 1) := by decide +kernel
theorem dX11_colourTold_1 : decode cX11_colourTold 1 = .ok (.iconst 2, 1) := by decide +kernel
theorem dX11_colourTold_2 : decode cX11_colourTold 2 = .ok (.if_icmp .ge 23, 3) := by decide +kernel
theorem dX11_colourTold_5 : decode cX11_colourTold 5 = .ok (.iload_n 2, 1) := by decide +kernel
theorem dX11_colourTold_6 : decode cX11_colourTold 6 = .ok (.ifCond .ne 12, 3) := by decide +kernel
theorem dX11_colourTold_9 : decode cX11_colourTold 9 = .ok (.aload_n 0, 1) := by decide +kernel
theorem dX11_colourTold_10 : decode cX11_colourTold 10 = .ok (.getfield 31, 3) := by decide +kernel
theorem dX11_colourTold_13 : decode cX11_colourTold 13 = .ok (.iload_n 1, 1) := by decide +kernel
theorem dX11_colourTold_14 : decode cX11_colourTold 14 = .ok (.iaload, 1) := by decide +kernel
theorem dX11_colourTold_15 : decode cX11_colourTold 15 = .ok (.goto 9, 3) := by decide +kernel
theorem dX11_colourTold_18 : decode cX11_colourTold 18 = .ok (.aload_n 0, 1) := by decide +kernel
theorem dX11_colourTold_19 : decode cX11_colourTold 19 = .ok (.getfield 34, 3) := by decide +kernel
theorem dX11_colourTold_22 : decode cX11_colourTold 22 = .ok (.iload_n 1, 1) := by decide +kernel
theorem dX11_colourTold_23 : decode cX11_colourTold 23 = .ok (.iaload, 1) := by decide +kernel
theorem dX11_colourTold_24 : decode cX11_colourTold 24 = .ok (.ireturn, 1) := by decide +kernel
theorem dX11_colourTold_25 : decode cX11_colourTold 25 = .ok (.iconst 0, 1) := by decide +kernel
theorem dX11_colourTold_26 : decode cX11_colourTold 26 = .ok (.istore_n 3, 1) := by decide +kernel
theorem dX11_colourTold_27 : decode cX11_colourTold 27 = .ok (.iconst 0, 1) := by decide +kernel
theorem dX11_colourTold_28 : decode cX11_colourTold 28 = .ok (.istore 4, 2) := by decide +kernel
theorem dX11_colourTold_30 : decode cX11_colourTold 30 = .ok (.iload 4, 2) := by decide +kernel
theorem dX11_colourTold_32 : decode cX11_colourTold 32 = .ok (.aload_n 0, 1) := by decide +kernel
theorem dX11_colourTold_33 : decode cX11_colourTold 33 = .ok (.getfield 160, 3) := by decide +kernel
theorem dX11_colourTold_36 : decode cX11_colourTold 36 = .ok (.if_icmp .ge 30, 3) := by decide +kernel
theorem dX11_colourTold_39 : decode cX11_colourTold 39 = .ok (.iload_n 3, 1) := by decide +kernel
theorem dX11_colourTold_40 : decode cX11_colourTold 40 = .ok (.aload_n 0, 1) := by decide +kernel
theorem dX11_colourTold_41 : decode cX11_colourTold 41 = .ok (.getfield 37, 3) := by decide +kernel
theorem dX11_colourTold_44 : decode cX11_colourTold 44 = .ok (.iload 4, 2) := by decide +kernel
theorem dX11_colourTold_46 : decode cX11_colourTold 46 = .ok (.iload_n 1, 1) := by decide +kernel
theorem dX11_colourTold_47 : decode cX11_colourTold 47 = .ok (.invokestatic 184, 3) := by decide +kernel
theorem dX11_colourTold_50 : decode cX11_colourTold 50 = .ok (.ifCond .eq 7, 3) := by decide +kernel
theorem dX11_colourTold_53 : decode cX11_colourTold 53 = .ok (.iconst 1, 1) := by decide +kernel
theorem dX11_colourTold_54 : decode cX11_colourTold 54 = .ok (.goto 4, 3) := by decide +kernel
theorem dX11_colourTold_57 : decode cX11_colourTold 57 = .ok (.iconst 0, 1) := by decide +kernel
theorem dX11_colourTold_58 : decode cX11_colourTold 58 = .ok (.iadd, 1) := by decide +kernel
theorem dX11_colourTold_59 : decode cX11_colourTold 59 = .ok (.istore_n 3, 1) := by decide +kernel
theorem dX11_colourTold_60 : decode cX11_colourTold 60 = .ok (.iinc 4 1, 3) := by decide +kernel
theorem dX11_colourTold_63 : decode cX11_colourTold 63 = .ok (.goto (-33), 3) := by decide +kernel
theorem dX11_colourTold_66 : decode cX11_colourTold 66 = .ok (.iload_n 2, 1) := by decide +kernel
theorem dX11_colourTold_67 : decode cX11_colourTold 67 = .ok (.iconst 2, 1) := by decide +kernel
theorem dX11_colourTold_68 : decode cX11_colourTold 68 = .ok (.if_icmp .ne 7, 3) := by decide +kernel
theorem dX11_colourTold_71 : decode cX11_colourTold 71 = .ok (.iload_n 3, 1) := by decide +kernel
theorem dX11_colourTold_72 : decode cX11_colourTold 72 = .ok (.goto 8, 3) := by decide +kernel
theorem dX11_colourTold_75 : decode cX11_colourTold 75 = .ok (.aload_n 0, 1) := by decide +kernel
theorem dX11_colourTold_76 : decode cX11_colourTold 76 = .ok (.iload_n 1, 1) := by decide +kernel
theorem dX11_colourTold_77 : decode cX11_colourTold 77 = .ok (.invokevirtual 188, 3) := by decide +kernel
theorem dX11_colourTold_80 : decode cX11_colourTold 80 = .ok (.ireturn, 1) := by decide +kernel
def fX11_colourTold_L30 (p1 : Int32) (p2 : Int32) : Nat → St → Int32 → Int32 → (St → Int32 → Int32 → Option (St × Int32)) → Option (St × Int32)
  | 0, _, _, _, _ => none
  | n + 1, σ1, v2, v3, k => (if (σ1.1 0 4) ≤ v3 then k σ1 v2 v3 else cl (fX11_owns σ1 10 v3 p1) (fun σ4 r5 => pv (if r5 = 0 then 0 else 1) (fun (y7 : Int32) => fX11_colourTold_L30 p1 p2 n σ4 (v2 + y7) (v3 + 1) k)))
def fX11_colourTold (σ : St) (p1 : Int32) (p2 : Int32) : Option (St × Int32) := (if 2 ≤ p2 then fX11_colourTold_L30 p1 p2 10000 σ 0 0 (fun σ8 v9 v10 => (if p2 = 2 then some (σ8, v9) else cl (fX11_nameSize σ8 p1) (fun σ11 r12 => some (σ11, r12)))) else (if p2 = 0 then rd LM σ 8 p1 (fun x14 => some (σ, x14)) else rd LM σ 9 p1 (fun x13 => some (σ, x13))))
set_option maxHeartbeats 4000000 in
set_option maxRecDepth 100000 in
theorem ctX11_colourTold (l : Launch) (g : GG) (σ : St) (p1 : Int32) (p2 : Int32) (σ' : St) (r : Int32) (hE : fX11_colourTold σ p1 p2 = some (σ', r)) : MI 25 entM l g yX11_colourTold (Cond.code yX11_colourTold cX11_colourTold 5 (some .int) :: gtbl) (rmD 2) [.ref (g.2.1 0), .int p1, .int p2] σ σ' r := by
  refine mi_i (own := RX11) (lv := [(0, .ref (g.2.1 0)), (1, .int p1), (2, .int p2)]) (by decide) rfl (Nat.le_of_ble_eq_true rfl) rfl (fun p e s m below meth c ls args Q A H0 H locs C hK hA hQ hs hl => ?_)
  have hx := C.1
  have hb := C.2.1
  unfold fX11_colourTold at hE
  refine lv_iload_n hx hb dX11_colourTold_0 rfl (lv_at hl 2 rfl) ?_
  refine lv_iconst (v := 2) hx hb dX11_colourTold_1 (by decide) ?_
  refine lv_icmp_ge (tgt := 25) hx hb dX11_colourTold_2 (by decide) (fun hc => ?_) (fun hc => ?_)
  · have hE := if_t hc hE
    refine lv_iconst (v := 0) hx hb dX11_colourTold_25 (by decide) ?_
    refine lv_istore_n (lv' := [(3, .int 0), (0, .ref (g.2.1 0)), (1, .int p1), (2, .int p2)]) hx hb dX11_colourTold_26 rfl hl (by decide) rfl (fun ls hl => ?_)
    refine lv_iconst (v := 0) hx hb dX11_colourTold_27 (by decide) ?_
    refine lv_istore (lv' := [(4, .int 0), (3, .int 0), (0, .ref (g.2.1 0)), (1, .int p1), (2, .int p2)]) hx hb dX11_colourTold_28 hl (by decide) rfl (fun ls hl => ?_)
    have hL30 : ∀ (n : Nat) (σ1 : St) (v2 : Int32) (v3 : Int32) (k : St → Int32 → Int32 → Option (St × Int32)), fX11_colourTold_L30 p1 p2 n σ1 v2 v3 k = some (σ', r) → (∀ (σ1 : St) (v2 : Int32) (v3 : Int32) (H : Heap) (locs : List Loc) (ls : Array Slot), HW 25 entM g A H0 H locs σ1 → lv_has ls 5 [(0, .ref (g.2.1 0)), (1, .int p1), (2, .int p2), (3, .int v2), (4, .int v3)] → k σ1 v2 v3 = some (σ', r) → W p l e (rmD 2) s m args below meth c H locs 0 0 Q (F0 m 66 ls [])) → ∀ (H : Heap) (locs : List Loc) (ls : Array Slot), HW 25 entM g A H0 H locs σ1 → lv_has ls 5 [(0, .ref (g.2.1 0)), (1, .int p1), (2, .int p2), (3, .int v2), (4, .int v3)] → W p l e (rmD 2) s m args below meth c H locs 0 0 Q (F0 m 30 ls []) := by
      intro n
      induction n with
      | zero =>
        intro σ1 v2 v3 k hE
        rw [fX11_colourTold_L30] at hE
        exact no_e hE
      | succ n ih =>
        intro σ1 v2 v3 k hE hk H locs ls hs hl
        rw [fX11_colourTold_L30] at hE
        refine lv_iload hx hb dX11_colourTold_30 (lv_at hl 4 rfl) ?_
        refine lv_aload_n hx hb dX11_colourTold_32 rfl (lv_at hl 0 rfl) ?_
        refine gf_X11_160_0 C hK hs dX11_colourTold_33 ?_
        refine lv_icmp_ge (tgt := 66) hx hb dX11_colourTold_36 (by decide) (fun hc => ?_) (fun hc => ?_)
        · have hE := if_t hc hE
          exact hk σ1 v2 v3 _ _ _ hs (lv_sub hl [0, 1, 2, 3, 4] rfl) hE
        · have hE := if_f hc hE
          refine lv_iload_n hx hb dX11_colourTold_39 rfl (lv_at hl 3 rfl) ?_
          refine lv_aload_n hx hb dX11_colourTold_40 rfl (lv_at hl 0 rfl) ?_
          refine gf_X11_37_0 C hK hs dX11_colourTold_41 ?_
          refine lv_iload hx hb dX11_colourTold_44 (lv_at hl 4 rfl) ?_
          refine lv_iload_n hx hb dX11_colourTold_46 rfl (lv_at hl 1 rfl) ?_
          obtain ⟨σ4, r5, hE1, hE⟩ := cl_e hE
          refine x_cis (As := [.ref (g.2.1 10), .int v3, .int p1]) (rest := [.int v2]) C hl.1 hK hs hA ⟨Nat.le_refl 0, Nat.le_refl 0⟩ (ctX11_owns l g _ _ _ _ _ _ hE1) (cw_X11_184 C ⟨Nat.le_of_ble_eq_true rfl, Nat.le_of_ble_eq_true rfl⟩) rfl rfl (Nat.le_of_ble_eq_true rfl) dX11_colourTold_47 (fun H locs hs => ?_)
          refine pvw hE (fun k6 hE hk6 => ?_)
          have hJk6 : ∀ (y7 : Int32) (H : Heap) (locs : List Loc) (ls : Array Slot), HW 25 entM g A H0 H locs σ4 → lv_has ls 5 [(0, .ref (g.2.1 0)), (1, .int p1), (2, .int p2), (4, .int v3)] → k6 y7 = some (σ', r) → W p l e (rmD 2) s m args below meth c H locs 0 0 Q (F0 m 58 ls [.int y7, .int v2]) := by
            intro y7 H locs ls hs hl hE
            have hE := hk6 _ hE
            refine lv_iadd hx hb dX11_colourTold_58 ?_
            refine lv_istore_n (lv' := [(3, .int (v2 + y7)), (0, .ref (g.2.1 0)), (1, .int p1), (2, .int p2), (4, .int v3)]) hx hb dX11_colourTold_59 rfl hl (by decide) rfl (fun ls hl => ?_)
            refine lv_iinc (v := v3 + 1) (lv' := [(4, .int (v3 + 1)), (3, .int (v2 + y7)), (0, .ref (g.2.1 0)), (1, .int p1), (2, .int p2)]) hx hb dX11_colourTold_60 hl (k := 4) rfl rfl (by decide) rfl (fun ls hl => ?_)
            refine lv_goto (tgt := 30) hx hb dX11_colourTold_63 (by decide) ?_
            exact ih _ _ _ _ hE hk _ _ _ hs (lv_sub hl [2, 3, 4, 1, 0] rfl)
          refine lv_if_eq (tgt := 57) hx hb dX11_colourTold_50 (by decide) (fun hc => ?_) (fun hc => ?_)
          · have hE := pv_t hc hE
            refine lv_iconst (v := 0) hx hb dX11_colourTold_57 (by decide) ?_
            exact hJk6 0 _ _ _ hs (lv_sub hl [0, 1, 2, 4] rfl) hE
          · have hE := pv_f hc hE
            refine lv_iconst (v := 1) hx hb dX11_colourTold_53 (by decide) ?_
            refine lv_goto (tgt := 58) hx hb dX11_colourTold_54 (by decide) ?_
            exact hJk6 1 _ _ _ hs (lv_sub hl [0, 1, 2, 4] rfl) hE
    refine hL30 _ _ _ _ _ hE (fun σ8 v9 v10 H locs ls hs hl hE => ?_) H locs ls hs (lv_sub hl [2, 3, 4, 1, 0] rfl)
    refine lv_iload_n hx hb dX11_colourTold_66 rfl (lv_at hl 2 rfl) ?_
    refine lv_iconst (v := 2) hx hb dX11_colourTold_67 (by decide) ?_
    refine lv_icmp_ne (tgt := 75) hx hb dX11_colourTold_68 (by decide) (fun hc => ?_) (fun hc => ?_)
    · have hE := if_f hc hE
      refine lv_aload_n hx hb dX11_colourTold_75 rfl (lv_at hl 0 rfl) ?_
      refine lv_iload_n hx hb dX11_colourTold_76 rfl (lv_at hl 1 rfl) ?_
      obtain ⟨σ11, r12, hE1, hE⟩ := cl_e hE
      refine x_civ (As := [.int p1]) (rest := []) C hl.1 hK hs hA ⟨Nat.le_refl 0, Nat.le_refl 0⟩ (ctX11_nameSize l g _ _ _ _ hE1) (cw_X11_188 C ⟨Nat.le_of_ble_eq_true rfl, Nat.le_of_ble_eq_true rfl⟩) (hs.recv hK 0 (by decide) rfl rfl) rfl rfl (Nat.le_of_ble_eq_true rfl) dX11_colourTold_77 (fun H locs hs => ?_)
      exact hQ hs hE dX11_colourTold_80
    · have hE := if_t hc hE
      refine lv_iload_n hx hb dX11_colourTold_71 rfl (lv_at hl 3 rfl) ?_
      refine lv_goto (tgt := 80) hx hb dX11_colourTold_72 (by decide) ?_
      exact hQ hs hE dX11_colourTold_80
  · have hE := if_f hc hE
    refine lv_iload_n hx hb dX11_colourTold_5 rfl (lv_at hl 2 rfl) ?_
    refine lv_if_ne (tgt := 18) hx hb dX11_colourTold_6 (by decide) (fun hc => ?_) (fun hc => ?_)
    · have hE := if_f hc hE
      refine lv_aload_n hx hb dX11_colourTold_18 rfl (lv_at hl 0 rfl) ?_
      refine gf_X11_34_0 C hK hs dX11_colourTold_19 ?_
      refine lv_iload_n hx hb dX11_colourTold_22 rfl (lv_at hl 1 rfl) ?_
      obtain ⟨hi, x13, ex13, hE⟩ := rd_w hE
      refine y_ald layM C hK hs hi ex13 dX11_colourTold_23 ?_
      exact hQ hs hE dX11_colourTold_24
    · have hE := if_t hc hE
      refine lv_aload_n hx hb dX11_colourTold_9 rfl (lv_at hl 0 rfl) ?_
      refine gf_X11_31_0 C hK hs dX11_colourTold_10 ?_
      refine lv_iload_n hx hb dX11_colourTold_13 rfl (lv_at hl 1 rfl) ?_
      obtain ⟨hi, x14, ex14, hE⟩ := rd_w hE
      refine y_ald layM C hK hs hi ex14 dX11_colourTold_14 ?_
      refine lv_goto (tgt := 24) hx hb dX11_colourTold_15 (by decide) ?_
      exact hQ hs hE dX11_colourTold_24
theorem dX11_colour_0 : decode cX11_colour 0 = .ok (.aload_n 0, 1) := by decide +kernel
theorem dX11_colour_1 : decode cX11_colour 1 = .ok (.iload_n 1, 1) := by decide +kernel
theorem dX11_colour_2 : decode cX11_colour 2 = .ok (.invokevirtual 191, 3) := by decide +kernel
theorem dX11_colour_5 : decode cX11_colour 5 = .ok (.ifCond .eq 28, 3) := by decide +kernel
theorem dX11_colour_8 : decode cX11_colour 8 = .ok (.iload_n 2, 1) := by decide +kernel
theorem dX11_colour_9 : decode cX11_colour 9 = .ok (.i2l, 1) := by decide +kernel
theorem dX11_colour_10 : decode cX11_colour 10 = .ok (.lconst 0, 1) := by decide +kernel
theorem dX11_colour_11 : decode cX11_colour 11 = .ok (.ldc2_w 100, 3) := by decide +kernel
theorem dX11_colour_14 : decode cX11_colour 14 = .ok (.invokestatic 96, 3) := by decide +kernel
theorem dX11_colour_17 : decode cX11_colour 17 = .ok (.ifCond .eq 16, 3) := by decide +kernel
theorem dX11_colour_20 : decode cX11_colour 20 = .ok (.aload_n 0, 1) := by decide +kernel
theorem dX11_colour_21 : decode cX11_colour 21 = .ok (.aload_n 0, 1) := by decide +kernel
theorem dX11_colour_22 : decode cX11_colour 22 = .ok (.iload_n 1, 1) := by decide +kernel
theorem dX11_colour_23 : decode cX11_colour 23 = .ok (.iload_n 2, 1) := by decide +kernel
theorem dX11_colour_24 : decode cX11_colour 24 = .ok (.invokevirtual 194, 3) := by decide +kernel
theorem dX11_colour_27 : decode cX11_colour 27 = .ok (.invokevirtual 110, 3) := by decide +kernel
theorem dX11_colour_30 : decode cX11_colour 30 = .ok (.goto 4, 3) := by decide +kernel
theorem dX11_colour_33 : decode cX11_colour 33 = .ok (.iconst (-1), 1) := by decide +kernel
theorem dX11_colour_34 : decode cX11_colour 34 = .ok (.ireturn, 1) := by decide +kernel
def fX11_colour (σ : St) (p1 : Int32) (p2 : Int32) : Option (St × Int32) := cl (fX11_isColour σ p1) (fun σ1 r2 => (if r2 = 0 then some (σ1, (-1)) else cl (fX11_in σ1 (p2.toInt64) 0 3) (fun σ3 r4 => (if r4 = 0 then some (σ3, (-1)) else cl (fX11_colourTold σ3 p1 p2) (fun σ5 r6 => cl (fX11_tell σ5 r6) (fun σ7 r8 => some (σ7, r8)))))))
set_option maxHeartbeats 4000000 in
set_option maxRecDepth 100000 in
theorem ctX11_colour (l : Launch) (g : GG) (σ : St) (p1 : Int32) (p2 : Int32) (σ' : St) (r : Int32) (hE : fX11_colour σ p1 p2 = some (σ', r)) : MI 25 entM l g yX11_colour (Cond.code yX11_colour cX11_colour 3 (some .int) :: gtbl) (rmD 3) [.ref (g.2.1 0), .int p1, .int p2] σ σ' r := by
  refine mi_i (own := RX11) (lv := [(0, .ref (g.2.1 0)), (1, .int p1), (2, .int p2)]) (by decide) rfl (Nat.le_of_ble_eq_true rfl) rfl (fun p e s m below meth c ls args Q A H0 H locs C hK hA hQ hs hl => ?_)
  have hx := C.1
  have hb := C.2.1
  unfold fX11_colour at hE
  refine lv_aload_n hx hb dX11_colour_0 rfl (lv_at hl 0 rfl) ?_
  refine lv_iload_n hx hb dX11_colour_1 rfl (lv_at hl 1 rfl) ?_
  obtain ⟨σ1, r2, hE1, hE⟩ := cl_e hE
  refine x_civ (As := [.int p1]) (rest := []) C hl.1 hK hs hA ⟨Nat.le_refl 0, Nat.le_refl 0⟩ (ctX11_isColour l g _ _ _ _ hE1) (cw_X11_191 C ⟨Nat.le_of_ble_eq_true rfl, Nat.le_of_ble_eq_true rfl⟩) (hs.recv hK 0 (by decide) rfl rfl) rfl rfl (Nat.le_of_ble_eq_true rfl) dX11_colour_2 (fun H locs hs => ?_)
  refine lv_if_eq (tgt := 33) hx hb dX11_colour_5 (by decide) (fun hc => ?_) (fun hc => ?_)
  · have hE := if_t hc hE
    refine lv_iconst (v := (-1)) hx hb dX11_colour_33 (by decide) ?_
    exact hQ hs hE dX11_colour_34
  · have hE := if_f hc hE
    refine lv_iload_n hx hb dX11_colour_8 rfl (lv_at hl 2 rfl) ?_
    refine lv_i2l (v := p2.toInt64) hx hb dX11_colour_9 rfl ?_
    refine lv_lconst (v := 0) hx hb dX11_colour_10 (by decide) ?_
    refine lv_ldc2 (v := 3) hx hb C.2.2.2.1 (C.2.2.2.2 _ mw_1105) dX11_colour_11 ?_
    obtain ⟨σ3, r4, hE1, hE⟩ := cl_e hE
    refine x_cis (As := [.long (p2.toInt64), .long 0, .long 3]) (rest := []) C hl.1 hK hs hA ⟨Nat.le_refl 0, Nat.le_refl 0⟩ (ctX11_in l g _ _ _ _ _ _ hE1) (cw_X11_96 C ⟨Nat.le_of_ble_eq_true rfl, Nat.le_of_ble_eq_true rfl⟩) rfl rfl (Nat.le_of_ble_eq_true rfl) dX11_colour_14 (fun H locs hs => ?_)
    refine lv_if_eq (tgt := 33) hx hb dX11_colour_17 (by decide) (fun hc => ?_) (fun hc => ?_)
    · have hE := if_t hc hE
      refine lv_iconst (v := (-1)) hx hb dX11_colour_33 (by decide) ?_
      exact hQ hs hE dX11_colour_34
    · have hE := if_f hc hE
      refine lv_aload_n hx hb dX11_colour_20 rfl (lv_at hl 0 rfl) ?_
      refine lv_aload_n hx hb dX11_colour_21 rfl (lv_at hl 0 rfl) ?_
      refine lv_iload_n hx hb dX11_colour_22 rfl (lv_at hl 1 rfl) ?_
      refine lv_iload_n hx hb dX11_colour_23 rfl (lv_at hl 2 rfl) ?_
      obtain ⟨σ5, r6, hE1, hE⟩ := cl_e hE
      refine x_civ (As := [.int p1, .int p2]) (rest := [.ref (g.2.1 0)]) C hl.1 hK hs hA ⟨Nat.le_refl 0, Nat.le_refl 0⟩ (ctX11_colourTold l g _ _ _ _ _ hE1) (cw_X11_194 C ⟨Nat.le_of_ble_eq_true rfl, Nat.le_of_ble_eq_true rfl⟩) (hs.recv hK 0 (by decide) rfl rfl) rfl rfl (Nat.le_of_ble_eq_true rfl) dX11_colour_24 (fun H locs hs => ?_)
      obtain ⟨σ7, r8, hE1, hE⟩ := cl_e hE
      refine x_civ (As := [.int r6]) (rest := []) C hl.1 hK hs hA ⟨Nat.le_refl 0, Nat.le_refl 0⟩ (ctX11_tell l g _ _ _ _ hE1) (cw_X11_110 C ⟨Nat.le_of_ble_eq_true rfl, Nat.le_of_ble_eq_true rfl⟩) (hs.recv hK 0 (by decide) rfl rfl) rfl rfl (Nat.le_of_ble_eq_true rfl) dX11_colour_27 (fun H locs hs => ?_)
      refine lv_goto (tgt := 34) hx hb dX11_colour_30 (by decide) ?_
      exact hQ hs hE dX11_colour_34
theorem dX11_letter_0 : decode cX11_letter 0 = .ok (.aload_n 0, 1) := by decide +kernel
theorem dX11_letter_1 : decode cX11_letter 1 = .ok (.iload_n 1, 1) := by decide +kernel
theorem dX11_letter_2 : decode cX11_letter 2 = .ok (.invokevirtual 191, 3) := by decide +kernel
theorem dX11_letter_5 : decode cX11_letter 5 = .ok (.ifCond .eq 7, 3) := by decide +kernel
theorem dX11_letter_8 : decode cX11_letter 8 = .ok (.iload_n 2, 1) := by decide +kernel
theorem dX11_letter_9 : decode cX11_letter 9 = .ok (.ifCond .ge 5, 3) := by decide +kernel
theorem dX11_letter_12 : decode cX11_letter 12 = .ok (.iconst (-1), 1) := by decide +kernel
theorem dX11_letter_13 : decode cX11_letter 13 = .ok (.ireturn, 1) := by decide +kernel
theorem dX11_letter_14 : decode cX11_letter 14 = .ok (.iload_n 2, 1) := by decide +kernel
theorem dX11_letter_15 : decode cX11_letter 15 = .ok (.aload_n 0, 1) := by decide +kernel
theorem dX11_letter_16 : decode cX11_letter 16 = .ok (.iload_n 1, 1) := by decide +kernel
theorem dX11_letter_17 : decode cX11_letter 17 = .ok (.invokevirtual 188, 3) := by decide +kernel
theorem dX11_letter_20 : decode cX11_letter 20 = .ok (.if_icmp .ge 17, 3) := by decide +kernel
theorem dX11_letter_23 : decode cX11_letter 23 = .ok (.aload_n 0, 1) := by decide +kernel
theorem dX11_letter_24 : decode cX11_letter 24 = .ok (.getfield 28, 3) := by decide +kernel
theorem dX11_letter_27 : decode cX11_letter 27 = .ok (.bipush 7, 2) := by decide +kernel
theorem dX11_letter_29 : decode cX11_letter 29 = .ok (.iload_n 1, 1) := by decide +kernel
theorem dX11_letter_30 : decode cX11_letter 30 = .ok (.imul, 1) := by decide +kernel
theorem dX11_letter_31 : decode cX11_letter 31 = .ok (.iload_n 2, 1) := by decide +kernel
theorem dX11_letter_32 : decode cX11_letter 32 = .ok (.iadd, 1) := by decide +kernel
theorem dX11_letter_33 : decode cX11_letter 33 = .ok (.iaload, 1) := by decide +kernel
theorem dX11_letter_34 : decode cX11_letter 34 = .ok (.goto 5, 3) := by decide +kernel
theorem dX11_letter_37 : decode cX11_letter 37 = .ok (.bipush (-9), 2) := by decide +kernel
theorem dX11_letter_39 : decode cX11_letter 39 = .ok (.ireturn, 1) := by decide +kernel
def fX11_letter (σ : St) (p1 : Int32) (p2 : Int32) : Option (St × Int32) := cl (fX11_isColour σ p1) (fun σ1 r2 => (if r2 = 0 then some (σ1, (-1)) else (if 0 ≤ p2 then cl (fX11_nameSize σ1 p1) (fun σ3 r4 => (if r4 ≤ p2 then some (σ3, (-9)) else rd LM σ3 7 ((7 * p1) + p2) (fun x5 => some (σ3, x5)))) else some (σ1, (-1)))))
set_option maxHeartbeats 4000000 in
set_option maxRecDepth 100000 in
theorem ctX11_letter (l : Launch) (g : GG) (σ : St) (p1 : Int32) (p2 : Int32) (σ' : St) (r : Int32) (hE : fX11_letter σ p1 p2 = some (σ', r)) : MI 25 entM l g yX11_letter (Cond.code yX11_letter cX11_letter 3 (some .int) :: gtbl) (rmD 3) [.ref (g.2.1 0), .int p1, .int p2] σ σ' r := by
  refine mi_i (own := RX11) (lv := [(0, .ref (g.2.1 0)), (1, .int p1), (2, .int p2)]) (by decide) rfl (Nat.le_of_ble_eq_true rfl) rfl (fun p e s m below meth c ls args Q A H0 H locs C hK hA hQ hs hl => ?_)
  have hx := C.1
  have hb := C.2.1
  unfold fX11_letter at hE
  refine lv_aload_n hx hb dX11_letter_0 rfl (lv_at hl 0 rfl) ?_
  refine lv_iload_n hx hb dX11_letter_1 rfl (lv_at hl 1 rfl) ?_
  obtain ⟨σ1, r2, hE1, hE⟩ := cl_e hE
  refine x_civ (As := [.int p1]) (rest := []) C hl.1 hK hs hA ⟨Nat.le_refl 0, Nat.le_refl 0⟩ (ctX11_isColour l g _ _ _ _ hE1) (cw_X11_191 C ⟨Nat.le_of_ble_eq_true rfl, Nat.le_of_ble_eq_true rfl⟩) (hs.recv hK 0 (by decide) rfl rfl) rfl rfl (Nat.le_of_ble_eq_true rfl) dX11_letter_2 (fun H locs hs => ?_)
  refine lv_if_eq (tgt := 12) hx hb dX11_letter_5 (by decide) (fun hc => ?_) (fun hc => ?_)
  · have hE := if_t hc hE
    refine lv_iconst (v := (-1)) hx hb dX11_letter_12 (by decide) ?_
    exact hQ hs hE dX11_letter_13
  · have hE := if_f hc hE
    refine lv_iload_n hx hb dX11_letter_8 rfl (lv_at hl 2 rfl) ?_
    refine lv_if_ge (tgt := 14) hx hb dX11_letter_9 (by decide) (fun hc => ?_) (fun hc => ?_)
    · have hE := if_t hc hE
      refine lv_iload_n hx hb dX11_letter_14 rfl (lv_at hl 2 rfl) ?_
      refine lv_aload_n hx hb dX11_letter_15 rfl (lv_at hl 0 rfl) ?_
      refine lv_iload_n hx hb dX11_letter_16 rfl (lv_at hl 1 rfl) ?_
      obtain ⟨σ3, r4, hE1, hE⟩ := cl_e hE
      refine x_civ (As := [.int p1]) (rest := [.int p2]) C hl.1 hK hs hA ⟨Nat.le_refl 0, Nat.le_refl 0⟩ (ctX11_nameSize l g _ _ _ _ hE1) (cw_X11_188 C ⟨Nat.le_of_ble_eq_true rfl, Nat.le_of_ble_eq_true rfl⟩) (hs.recv hK 0 (by decide) rfl rfl) rfl rfl (Nat.le_of_ble_eq_true rfl) dX11_letter_17 (fun H locs hs => ?_)
      refine lv_icmp_ge (tgt := 37) hx hb dX11_letter_20 (by decide) (fun hc => ?_) (fun hc => ?_)
      · have hE := if_t hc hE
        refine lv_bipush (v := (-9)) hx hb dX11_letter_37 (by decide) ?_
        exact hQ hs hE dX11_letter_39
      · have hE := if_f hc hE
        refine lv_aload_n hx hb dX11_letter_23 rfl (lv_at hl 0 rfl) ?_
        refine gf_X11_28_0 C hK hs dX11_letter_24 ?_
        refine lv_bipush (v := 7) hx hb dX11_letter_27 (by decide) ?_
        refine lv_iload_n hx hb dX11_letter_29 rfl (lv_at hl 1 rfl) ?_
        refine lv_imul hx hb dX11_letter_30 ?_
        refine lv_iload_n hx hb dX11_letter_31 rfl (lv_at hl 2 rfl) ?_
        refine lv_iadd hx hb dX11_letter_32 ?_
        obtain ⟨hi, x5, ex5, hE⟩ := rd_w hE
        refine y_ald layM C hK hs hi ex5 dX11_letter_33 ?_
        refine lv_goto (tgt := 39) hx hb dX11_letter_34 (by decide) ?_
        exact hQ hs hE dX11_letter_39
    · have hE := if_f hc hE
      refine lv_iconst (v := (-1)) hx hb dX11_letter_12 (by decide) ?_
      exact hQ hs hE dX11_letter_13
theorem dX11_ownSet_0 : decode cX11_ownSet 0 = .ok (.iconst 0, 1) := by decide +kernel
theorem dX11_ownSet_1 : decode cX11_ownSet 1 = .ok (.istore_n 3, 1) := by decide +kernel
theorem dX11_ownSet_2 : decode cX11_ownSet 2 = .ok (.iconst 0, 1) := by decide +kernel
theorem dX11_ownSet_3 : decode cX11_ownSet 3 = .ok (.istore 4, 2) := by decide +kernel
theorem dX11_ownSet_5 : decode cX11_ownSet 5 = .ok (.iload 4, 2) := by decide +kernel
theorem dX11_ownSet_7 : decode cX11_ownSet 7 = .ok (.aload_n 0, 1) := by decide +kernel
theorem dX11_ownSet_8 : decode cX11_ownSet 8 = .ok (.getfield 163, 3) := by decide +kernel
theorem dX11_ownSet_11 : decode cX11_ownSet 11 = .ok (.if_icmp .ge 30, 3) := by decide +kernel
theorem dX11_ownSet_14 : decode cX11_ownSet 14 = .ok (.iload_n 3, 1) := by decide +kernel
theorem dX11_ownSet_15 : decode cX11_ownSet 15 = .ok (.aload_n 1, 1) := by decide +kernel
theorem dX11_ownSet_16 : decode cX11_ownSet 16 = .ok (.iload_n 2, 1) := by decide +kernel
theorem dX11_ownSet_17 : decode cX11_ownSet 17 = .ok (.iload 4, 2) := by decide +kernel
theorem dX11_ownSet_19 : decode cX11_ownSet 19 = .ok (.invokestatic 184, 3) := by decide +kernel
theorem dX11_ownSet_22 : decode cX11_ownSet 22 = .ok (.ifCond .eq 10, 3) := by decide +kernel
theorem dX11_ownSet_25 : decode cX11_ownSet 25 = .ok (.iconst 1, 1) := by decide +kernel
theorem dX11_ownSet_26 : decode cX11_ownSet 26 = .ok (.iload 4, 2) := by decide +kernel
theorem dX11_ownSet_28 : decode cX11_ownSet 28 = .ok (.ishl, 1) := by decide +kernel
theorem dX11_ownSet_29 : decode cX11_ownSet 29 = .ok (.goto 4, 3) := by decide +kernel
theorem dX11_ownSet_32 : decode cX11_ownSet 32 = .ok (.iconst 0, 1) := by decide +kernel
theorem dX11_ownSet_33 : decode cX11_ownSet 33 = .ok (.ior, 1) := by decide +kernel
theorem dX11_ownSet_34 : decode cX11_ownSet 34 = .ok (.istore_n 3, 1) := by decide +kernel
theorem dX11_ownSet_35 : decode cX11_ownSet 35 = .ok (.iinc 4 1, 3) := by decide +kernel
theorem dX11_ownSet_38 : decode cX11_ownSet 38 = .ok (.goto (-33), 3) := by decide +kernel
theorem dX11_ownSet_41 : decode cX11_ownSet 41 = .ok (.iload_n 3, 1) := by decide +kernel
theorem dX11_ownSet_42 : decode cX11_ownSet 42 = .ok (.ireturn, 1) := by decide +kernel
def fX11_ownSet_L5 (p1 : Nat) (p2 : Int32) : Nat → St → Int32 → Int32 → (St → Int32 → Int32 → Option (St × Int32)) → Option (St × Int32)
  | 0, _, _, _, _ => none
  | n + 1, σ1, v2, v3, k => (if (σ1.1 0 7) ≤ v3 then k σ1 v2 v3 else cl (fX11_owns σ1 p1 p2 v3) (fun σ4 r5 => pv (α := Int32) (if r5 = 0 then 0 else (1 <<< (v3 &&& 31))) (fun (y7 : Int32) => fX11_ownSet_L5 p1 p2 n σ4 (v2 ||| y7) (v3 + 1) k)))
def fX11_ownSet (σ : St) (p1 : Nat) (p2 : Int32) : Option (St × Int32) := fX11_ownSet_L5 p1 p2 10000 σ 0 0 (fun σ8 v9 v10 => some (σ8, v9))
set_option maxHeartbeats 4000000 in
set_option maxRecDepth 100000 in
theorem ctX11_ownSet (l : Launch) (g : GG) (σ : St) (p1 : Nat) (p2 : Int32) (σ' : St) (r : Int32) (hE : fX11_ownSet σ p1 p2 = some (σ', r)) : MI 25 entM l g yX11_ownSet (Cond.code yX11_ownSet cX11_ownSet 5 (some .int) :: gtbl) (rmD 2) [.ref (g.2.1 0), .ref (g.2.1 p1), .int p2] σ σ' r := by
  refine mi_i (own := RX11) (lv := [(0, .ref (g.2.1 0)), (1, .ref (g.2.1 p1)), (2, .int p2)]) (by decide) rfl (Nat.le_of_ble_eq_true rfl) rfl (fun p e s m below meth c ls args Q A H0 H locs C hK hA hQ hs hl => ?_)
  have hx := C.1
  have hb := C.2.1
  unfold fX11_ownSet at hE
  refine lv_iconst (v := 0) hx hb dX11_ownSet_0 (by decide) ?_
  refine lv_istore_n (lv' := [(3, .int 0), (0, .ref (g.2.1 0)), (1, .ref (g.2.1 p1)), (2, .int p2)]) hx hb dX11_ownSet_1 rfl hl (by decide) rfl (fun ls hl => ?_)
  refine lv_iconst (v := 0) hx hb dX11_ownSet_2 (by decide) ?_
  refine lv_istore (lv' := [(4, .int 0), (3, .int 0), (0, .ref (g.2.1 0)), (1, .ref (g.2.1 p1)), (2, .int p2)]) hx hb dX11_ownSet_3 hl (by decide) rfl (fun ls hl => ?_)
  have hL5 : ∀ (n : Nat) (σ1 : St) (v2 : Int32) (v3 : Int32) (k : St → Int32 → Int32 → Option (St × Int32)), fX11_ownSet_L5 p1 p2 n σ1 v2 v3 k = some (σ', r) → (∀ (σ1 : St) (v2 : Int32) (v3 : Int32) (H : Heap) (locs : List Loc) (ls : Array Slot), HW 25 entM g A H0 H locs σ1 → lv_has ls 5 [(0, .ref (g.2.1 0)), (1, .ref (g.2.1 p1)), (2, .int p2), (3, .int v2), (4, .int v3)] → k σ1 v2 v3 = some (σ', r) → W p l e (rmD 2) s m args below meth c H locs 0 0 Q (F0 m 41 ls [])) → ∀ (H : Heap) (locs : List Loc) (ls : Array Slot), HW 25 entM g A H0 H locs σ1 → lv_has ls 5 [(0, .ref (g.2.1 0)), (1, .ref (g.2.1 p1)), (2, .int p2), (3, .int v2), (4, .int v3)] → W p l e (rmD 2) s m args below meth c H locs 0 0 Q (F0 m 5 ls []) := by
    intro n
    induction n with
    | zero =>
      intro σ1 v2 v3 k hE
      rw [fX11_ownSet_L5] at hE
      exact no_e hE
    | succ n ih =>
      intro σ1 v2 v3 k hE hk H locs ls hs hl
      rw [fX11_ownSet_L5] at hE
      refine lv_iload hx hb dX11_ownSet_5 (lv_at hl 4 rfl) ?_
      refine lv_aload_n hx hb dX11_ownSet_7 rfl (lv_at hl 0 rfl) ?_
      refine gf_X11_163_0 C hK hs dX11_ownSet_8 ?_
      refine lv_icmp_ge (tgt := 41) hx hb dX11_ownSet_11 (by decide) (fun hc => ?_) (fun hc => ?_)
      · have hE := if_t hc hE
        exact hk σ1 v2 v3 _ _ _ hs (lv_sub hl [0, 1, 2, 3, 4] rfl) hE
      · have hE := if_f hc hE
        refine lv_iload_n hx hb dX11_ownSet_14 rfl (lv_at hl 3 rfl) ?_
        refine lv_aload_n hx hb dX11_ownSet_15 rfl (lv_at hl 1 rfl) ?_
        refine lv_iload_n hx hb dX11_ownSet_16 rfl (lv_at hl 2 rfl) ?_
        refine lv_iload hx hb dX11_ownSet_17 (lv_at hl 4 rfl) ?_
        obtain ⟨σ4, r5, hE1, hE⟩ := cl_e hE
        refine x_cis (As := [.ref (g.2.1 p1), .int p2, .int v3]) (rest := [.int v2]) C hl.1 hK hs hA ⟨Nat.le_refl 0, Nat.le_refl 0⟩ (ctX11_owns l g _ _ _ _ _ _ hE1) (cw_X11_184 C ⟨Nat.le_of_ble_eq_true rfl, Nat.le_of_ble_eq_true rfl⟩) rfl rfl (Nat.le_of_ble_eq_true rfl) dX11_ownSet_19 (fun H locs hs => ?_)
        refine pvw hE (fun k6 hE hk6 => ?_)
        have hJk6 : ∀ (y7 : Int32) (H : Heap) (locs : List Loc) (ls : Array Slot), HW 25 entM g A H0 H locs σ4 → lv_has ls 5 [(0, .ref (g.2.1 0)), (1, .ref (g.2.1 p1)), (2, .int p2), (4, .int v3)] → k6 y7 = some (σ', r) → W p l e (rmD 2) s m args below meth c H locs 0 0 Q (F0 m 33 ls [.int y7, .int v2]) := by
          intro y7 H locs ls hs hl hE
          have hE := hk6 _ hE
          refine lv_ior hx hb dX11_ownSet_33 ?_
          refine lv_istore_n (lv' := [(3, .int (v2 ||| y7)), (0, .ref (g.2.1 0)), (1, .ref (g.2.1 p1)), (2, .int p2), (4, .int v3)]) hx hb dX11_ownSet_34 rfl hl (by decide) rfl (fun ls hl => ?_)
          refine lv_iinc (v := v3 + 1) (lv' := [(4, .int (v3 + 1)), (3, .int (v2 ||| y7)), (0, .ref (g.2.1 0)), (1, .ref (g.2.1 p1)), (2, .int p2)]) hx hb dX11_ownSet_35 hl (k := 4) rfl rfl (by decide) rfl (fun ls hl => ?_)
          refine lv_goto (tgt := 5) hx hb dX11_ownSet_38 (by decide) ?_
          exact ih _ _ _ _ hE hk _ _ _ hs (lv_sub hl [2, 3, 4, 1, 0] rfl)
        refine lv_if_eq (tgt := 32) hx hb dX11_ownSet_22 (by decide) (fun hc => ?_) (fun hc => ?_)
        · have hE := pv_t hc hE
          refine lv_iconst (v := 0) hx hb dX11_ownSet_32 (by decide) ?_
          exact hJk6 0 _ _ _ hs (lv_sub hl [0, 1, 2, 4] rfl) hE
        · have hE := pv_f hc hE
          refine lv_iconst (v := 1) hx hb dX11_ownSet_25 (by decide) ?_
          refine lv_iload hx hb dX11_ownSet_26 (lv_at hl 4 rfl) ?_
          refine lv_ishl hx hb dX11_ownSet_28 ?_
          refine lv_goto (tgt := 33) hx hb dX11_ownSet_29 (by decide) ?_
          exact hJk6 (1 <<< (v3 &&& 31)) _ _ _ hs (lv_sub hl [0, 1, 2, 4] rfl) hE
  refine hL5 _ _ _ _ _ hE (fun σ8 v9 v10 H locs ls hs hl hE => ?_) H locs ls hs (lv_sub hl [2, 3, 4, 1, 0] rfl)
  refine lv_iload_n hx hb dX11_ownSet_41 rfl (lv_at hl 3 rfl) ?_
  exact hQ hs hE dX11_ownSet_42
theorem dX11_houseTold_0 : decode cX11_houseTold 0 = .ok (.iload_n 2, 1) := by decide +kernel
theorem dX11_houseTold_1 : decode cX11_houseTold 1 = .ok (.ifCond .ne 12, 3) := by decide +kernel
theorem dX11_houseTold_4 : decode cX11_houseTold 4 = .ok (.aload_n 0, 1) := by decide +kernel
theorem dX11_houseTold_5 : decode cX11_houseTold 5 = .ok (.getfield 22, 3) := by decide +kernel
theorem dX11_houseTold_8 : decode cX11_houseTold 8 = .ok (.iload_n 1, 1) := by decide +kernel
theorem dX11_houseTold_9 : decode cX11_houseTold 9 = .ok (.iaload, 1) := by decide +kernel
theorem dX11_houseTold_10 : decode cX11_houseTold 10 = .ok (.goto 42, 3) := by decide +kernel
theorem dX11_houseTold_13 : decode cX11_houseTold 13 = .ok (.iload_n 2, 1) := by decide +kernel
theorem dX11_houseTold_14 : decode cX11_houseTold 14 = .ok (.iconst 1, 1) := by decide +kernel
theorem dX11_houseTold_15 : decode cX11_houseTold 15 = .ok (.if_icmp .ne 12, 3) := by decide +kernel
theorem dX11_houseTold_18 : decode cX11_houseTold 18 = .ok (.aload_n 0, 1) := by decide +kernel
theorem dX11_houseTold_19 : decode cX11_houseTold 19 = .ok (.getfield 25, 3) := by decide +kernel
theorem dX11_houseTold_22 : decode cX11_houseTold 22 = .ok (.iload_n 1, 1) := by decide +kernel
theorem dX11_houseTold_23 : decode cX11_houseTold 23 = .ok (.iaload, 1) := by decide +kernel
theorem dX11_houseTold_24 : decode cX11_houseTold 24 = .ok (.goto 28, 3) := by decide +kernel
theorem dX11_houseTold_27 : decode cX11_houseTold 27 = .ok (.iload_n 2, 1) := by decide +kernel
theorem dX11_houseTold_28 : decode cX11_houseTold 28 = .ok (.iconst 2, 1) := by decide +kernel
theorem dX11_houseTold_29 : decode cX11_houseTold 29 = .ok (.if_icmp .ne 14, 3) := by decide +kernel
theorem dX11_houseTold_32 : decode cX11_houseTold 32 = .ok (.aload_n 0, 1) := by decide +kernel
theorem dX11_houseTold_33 : decode cX11_houseTold 33 = .ok (.getfield 37, 3) := by decide +kernel
theorem dX11_houseTold_36 : decode cX11_houseTold 36 = .ok (.iconst 1, 1) := by decide +kernel
theorem dX11_houseTold_37 : decode cX11_houseTold 37 = .ok (.iload_n 1, 1) := by decide +kernel
theorem dX11_houseTold_38 : decode cX11_houseTold 38 = .ok (.iadd, 1) := by decide +kernel
theorem dX11_houseTold_39 : decode cX11_houseTold 39 = .ok (.iaload, 1) := by decide +kernel
theorem dX11_houseTold_40 : decode cX11_houseTold 40 = .ok (.goto 12, 3) := by decide +kernel
theorem dX11_houseTold_43 : decode cX11_houseTold 43 = .ok (.aload_n 0, 1) := by decide +kernel
theorem dX11_houseTold_44 : decode cX11_houseTold 44 = .ok (.aload_n 0, 1) := by decide +kernel
theorem dX11_houseTold_45 : decode cX11_houseTold 45 = .ok (.getfield 37, 3) := by decide +kernel
theorem dX11_houseTold_48 : decode cX11_houseTold 48 = .ok (.iload_n 1, 1) := by decide +kernel
theorem dX11_houseTold_49 : decode cX11_houseTold 49 = .ok (.invokevirtual 197, 3) := by decide +kernel
theorem dX11_houseTold_52 : decode cX11_houseTold 52 = .ok (.ireturn, 1) := by decide +kernel
def fX11_houseTold (σ : St) (p1 : Int32) (p2 : Int32) : Option (St × Int32) := (if p2 = 0 then rd LM σ 5 p1 (fun x5 => some (σ, x5)) else (if p2 = 1 then rd LM σ 6 p1 (fun x4 => some (σ, x4)) else (if p2 = 2 then rd LM σ 10 (1 + p1) (fun x3 => some (σ, x3)) else cl (fX11_ownSet σ 10 p1) (fun σ1 r2 => some (σ1, r2)))))
set_option maxHeartbeats 4000000 in
set_option maxRecDepth 100000 in
theorem ctX11_houseTold (l : Launch) (g : GG) (σ : St) (p1 : Int32) (p2 : Int32) (σ' : St) (r : Int32) (hE : fX11_houseTold σ p1 p2 = some (σ', r)) : MI 25 entM l g yX11_houseTold (Cond.code yX11_houseTold cX11_houseTold 3 (some .int) :: gtbl) (rmD 3) [.ref (g.2.1 0), .int p1, .int p2] σ σ' r := by
  refine mi_i (own := RX11) (lv := [(0, .ref (g.2.1 0)), (1, .int p1), (2, .int p2)]) (by decide) rfl (Nat.le_of_ble_eq_true rfl) rfl (fun p e s m below meth c ls args Q A H0 H locs C hK hA hQ hs hl => ?_)
  have hx := C.1
  have hb := C.2.1
  unfold fX11_houseTold at hE
  refine lv_iload_n hx hb dX11_houseTold_0 rfl (lv_at hl 2 rfl) ?_
  refine lv_if_ne (tgt := 13) hx hb dX11_houseTold_1 (by decide) (fun hc => ?_) (fun hc => ?_)
  · have hE := if_f hc hE
    refine lv_iload_n hx hb dX11_houseTold_13 rfl (lv_at hl 2 rfl) ?_
    refine lv_iconst (v := 1) hx hb dX11_houseTold_14 (by decide) ?_
    refine lv_icmp_ne (tgt := 27) hx hb dX11_houseTold_15 (by decide) (fun hc => ?_) (fun hc => ?_)
    · have hE := if_f hc hE
      refine lv_iload_n hx hb dX11_houseTold_27 rfl (lv_at hl 2 rfl) ?_
      refine lv_iconst (v := 2) hx hb dX11_houseTold_28 (by decide) ?_
      refine lv_icmp_ne (tgt := 43) hx hb dX11_houseTold_29 (by decide) (fun hc => ?_) (fun hc => ?_)
      · have hE := if_f hc hE
        refine lv_aload_n hx hb dX11_houseTold_43 rfl (lv_at hl 0 rfl) ?_
        refine lv_aload_n hx hb dX11_houseTold_44 rfl (lv_at hl 0 rfl) ?_
        refine gf_X11_37_0 C hK hs dX11_houseTold_45 ?_
        refine lv_iload_n hx hb dX11_houseTold_48 rfl (lv_at hl 1 rfl) ?_
        obtain ⟨σ1, r2, hE1, hE⟩ := cl_e hE
        refine x_civ (As := [.ref (g.2.1 10), .int p1]) (rest := []) C hl.1 hK hs hA ⟨Nat.le_refl 0, Nat.le_refl 0⟩ (ctX11_ownSet l g _ _ _ _ _ hE1) (cw_X11_197 C ⟨Nat.le_of_ble_eq_true rfl, Nat.le_of_ble_eq_true rfl⟩) (hs.recv hK 0 (by decide) rfl rfl) rfl rfl (Nat.le_of_ble_eq_true rfl) dX11_houseTold_49 (fun H locs hs => ?_)
        exact hQ hs hE dX11_houseTold_52
      · have hE := if_t hc hE
        refine lv_aload_n hx hb dX11_houseTold_32 rfl (lv_at hl 0 rfl) ?_
        refine gf_X11_37_0 C hK hs dX11_houseTold_33 ?_
        refine lv_iconst (v := 1) hx hb dX11_houseTold_36 (by decide) ?_
        refine lv_iload_n hx hb dX11_houseTold_37 rfl (lv_at hl 1 rfl) ?_
        refine lv_iadd hx hb dX11_houseTold_38 ?_
        obtain ⟨hi, x3, ex3, hE⟩ := rd_w hE
        refine y_ald layM C hK hs hi ex3 dX11_houseTold_39 ?_
        refine lv_goto (tgt := 52) hx hb dX11_houseTold_40 (by decide) ?_
        exact hQ hs hE dX11_houseTold_52
    · have hE := if_t hc hE
      refine lv_aload_n hx hb dX11_houseTold_18 rfl (lv_at hl 0 rfl) ?_
      refine gf_X11_25_0 C hK hs dX11_houseTold_19 ?_
      refine lv_iload_n hx hb dX11_houseTold_22 rfl (lv_at hl 1 rfl) ?_
      obtain ⟨hi, x4, ex4, hE⟩ := rd_w hE
      refine y_ald layM C hK hs hi ex4 dX11_houseTold_23 ?_
      refine lv_goto (tgt := 52) hx hb dX11_houseTold_24 (by decide) ?_
      exact hQ hs hE dX11_houseTold_52
  · have hE := if_t hc hE
    refine lv_aload_n hx hb dX11_houseTold_4 rfl (lv_at hl 0 rfl) ?_
    refine gf_X11_22_0 C hK hs dX11_houseTold_5 ?_
    refine lv_iload_n hx hb dX11_houseTold_8 rfl (lv_at hl 1 rfl) ?_
    obtain ⟨hi, x5, ex5, hE⟩ := rd_w hE
    refine y_ald layM C hK hs hi ex5 dX11_houseTold_9 ?_
    refine lv_goto (tgt := 52) hx hb dX11_houseTold_10 (by decide) ?_
    exact hQ hs hE dX11_houseTold_52
theorem dX11_house_0 : decode cX11_house 0 = .ok (.aload_n 0, 1) := by decide +kernel
theorem dX11_house_1 : decode cX11_house 1 = .ok (.iload_n 1, 1) := by decide +kernel
theorem dX11_house_2 : decode cX11_house 2 = .ok (.invokevirtual 201, 3) := by decide +kernel
theorem dX11_house_5 : decode cX11_house 5 = .ok (.ifCond .eq 28, 3) := by decide +kernel
theorem dX11_house_8 : decode cX11_house 8 = .ok (.iload_n 2, 1) := by decide +kernel
theorem dX11_house_9 : decode cX11_house 9 = .ok (.i2l, 1) := by decide +kernel
theorem dX11_house_10 : decode cX11_house 10 = .ok (.lconst 0, 1) := by decide +kernel
theorem dX11_house_11 : decode cX11_house 11 = .ok (.ldc2_w 100, 3) := by decide +kernel
theorem dX11_house_14 : decode cX11_house 14 = .ok (.invokestatic 96, 3) := by decide +kernel
theorem dX11_house_17 : decode cX11_house 17 = .ok (.ifCond .eq 16, 3) := by decide +kernel
theorem dX11_house_20 : decode cX11_house 20 = .ok (.aload_n 0, 1) := by decide +kernel
theorem dX11_house_21 : decode cX11_house 21 = .ok (.aload_n 0, 1) := by decide +kernel
theorem dX11_house_22 : decode cX11_house 22 = .ok (.iload_n 1, 1) := by decide +kernel
theorem dX11_house_23 : decode cX11_house 23 = .ok (.iload_n 2, 1) := by decide +kernel
theorem dX11_house_24 : decode cX11_house 24 = .ok (.invokevirtual 204, 3) := by decide +kernel
theorem dX11_house_27 : decode cX11_house 27 = .ok (.invokevirtual 110, 3) := by decide +kernel
theorem dX11_house_30 : decode cX11_house 30 = .ok (.goto 4, 3) := by decide +kernel
theorem dX11_house_33 : decode cX11_house 33 = .ok (.iconst (-1), 1) := by decide +kernel
theorem dX11_house_34 : decode cX11_house 34 = .ok (.ireturn, 1) := by decide +kernel
def fX11_house (σ : St) (p1 : Int32) (p2 : Int32) : Option (St × Int32) := cl (fX11_isHouse σ p1) (fun σ1 r2 => (if r2 = 0 then some (σ1, (-1)) else cl (fX11_in σ1 (p2.toInt64) 0 3) (fun σ3 r4 => (if r4 = 0 then some (σ3, (-1)) else cl (fX11_houseTold σ3 p1 p2) (fun σ5 r6 => cl (fX11_tell σ5 r6) (fun σ7 r8 => some (σ7, r8)))))))
set_option maxHeartbeats 4000000 in
set_option maxRecDepth 100000 in
theorem ctX11_house (l : Launch) (g : GG) (σ : St) (p1 : Int32) (p2 : Int32) (σ' : St) (r : Int32) (hE : fX11_house σ p1 p2 = some (σ', r)) : MI 25 entM l g yX11_house (Cond.code yX11_house cX11_house 3 (some .int) :: gtbl) (rmD 4) [.ref (g.2.1 0), .int p1, .int p2] σ σ' r := by
  refine mi_i (own := RX11) (lv := [(0, .ref (g.2.1 0)), (1, .int p1), (2, .int p2)]) (by decide) rfl (Nat.le_of_ble_eq_true rfl) rfl (fun p e s m below meth c ls args Q A H0 H locs C hK hA hQ hs hl => ?_)
  have hx := C.1
  have hb := C.2.1
  unfold fX11_house at hE
  refine lv_aload_n hx hb dX11_house_0 rfl (lv_at hl 0 rfl) ?_
  refine lv_iload_n hx hb dX11_house_1 rfl (lv_at hl 1 rfl) ?_
  obtain ⟨σ1, r2, hE1, hE⟩ := cl_e hE
  refine x_civ (As := [.int p1]) (rest := []) C hl.1 hK hs hA ⟨Nat.le_refl 0, Nat.le_refl 0⟩ (ctX11_isHouse l g _ _ _ _ hE1) (cw_X11_201 C ⟨Nat.le_of_ble_eq_true rfl, Nat.le_of_ble_eq_true rfl⟩) (hs.recv hK 0 (by decide) rfl rfl) rfl rfl (Nat.le_of_ble_eq_true rfl) dX11_house_2 (fun H locs hs => ?_)
  refine lv_if_eq (tgt := 33) hx hb dX11_house_5 (by decide) (fun hc => ?_) (fun hc => ?_)
  · have hE := if_t hc hE
    refine lv_iconst (v := (-1)) hx hb dX11_house_33 (by decide) ?_
    exact hQ hs hE dX11_house_34
  · have hE := if_f hc hE
    refine lv_iload_n hx hb dX11_house_8 rfl (lv_at hl 2 rfl) ?_
    refine lv_i2l (v := p2.toInt64) hx hb dX11_house_9 rfl ?_
    refine lv_lconst (v := 0) hx hb dX11_house_10 (by decide) ?_
    refine lv_ldc2 (v := 3) hx hb C.2.2.2.1 (C.2.2.2.2 _ mw_1105) dX11_house_11 ?_
    obtain ⟨σ3, r4, hE1, hE⟩ := cl_e hE
    refine x_cis (As := [.long (p2.toInt64), .long 0, .long 3]) (rest := []) C hl.1 hK hs hA ⟨Nat.le_refl 0, Nat.le_refl 0⟩ (ctX11_in l g _ _ _ _ _ _ hE1) (cw_X11_96 C ⟨Nat.le_of_ble_eq_true rfl, Nat.le_of_ble_eq_true rfl⟩) rfl rfl (Nat.le_of_ble_eq_true rfl) dX11_house_14 (fun H locs hs => ?_)
    refine lv_if_eq (tgt := 33) hx hb dX11_house_17 (by decide) (fun hc => ?_) (fun hc => ?_)
    · have hE := if_t hc hE
      refine lv_iconst (v := (-1)) hx hb dX11_house_33 (by decide) ?_
      exact hQ hs hE dX11_house_34
    · have hE := if_f hc hE
      refine lv_aload_n hx hb dX11_house_20 rfl (lv_at hl 0 rfl) ?_
      refine lv_aload_n hx hb dX11_house_21 rfl (lv_at hl 0 rfl) ?_
      refine lv_iload_n hx hb dX11_house_22 rfl (lv_at hl 1 rfl) ?_
      refine lv_iload_n hx hb dX11_house_23 rfl (lv_at hl 2 rfl) ?_
      obtain ⟨σ5, r6, hE1, hE⟩ := cl_e hE
      refine x_civ (As := [.int p1, .int p2]) (rest := [.ref (g.2.1 0)]) C hl.1 hK hs hA ⟨Nat.le_refl 0, Nat.le_refl 0⟩ (ctX11_houseTold l g _ _ _ _ _ hE1) (cw_X11_204 C ⟨Nat.le_of_ble_eq_true rfl, Nat.le_of_ble_eq_true rfl⟩) (hs.recv hK 0 (by decide) rfl rfl) rfl rfl (Nat.le_of_ble_eq_true rfl) dX11_house_24 (fun H locs hs => ?_)
      obtain ⟨σ7, r8, hE1, hE⟩ := cl_e hE
      refine x_civ (As := [.int r6]) (rest := []) C hl.1 hK hs hA ⟨Nat.le_refl 0, Nat.le_refl 0⟩ (ctX11_tell l g _ _ _ _ hE1) (cw_X11_110 C ⟨Nat.le_of_ble_eq_true rfl, Nat.le_of_ble_eq_true rfl⟩) (hs.recv hK 0 (by decide) rfl rfl) rfl rfl (Nat.le_of_ble_eq_true rfl) dX11_house_27 (fun H locs hs => ?_)
      refine lv_goto (tgt := 34) hx hb dX11_house_30 (by decide) ?_
      exact hQ hs hE dX11_house_34
theorem dX11_thing_0 : decode cX11_thing 0 = .ok (.aload_n 0, 1) := by decide +kernel
theorem dX11_thing_1 : decode cX11_thing 1 = .ok (.iload_n 1, 1) := by decide +kernel
theorem dX11_thing_2 : decode cX11_thing 2 = .ok (.invokevirtual 201, 3) := by decide +kernel
theorem dX11_thing_5 : decode cX11_thing 5 = .ok (.ifCond .eq 11, 3) := by decide +kernel
theorem dX11_thing_8 : decode cX11_thing 8 = .ok (.aload_n 0, 1) := by decide +kernel
theorem dX11_thing_9 : decode cX11_thing 9 = .ok (.iload_n 2, 1) := by decide +kernel
theorem dX11_thing_10 : decode cX11_thing 10 = .ok (.invokevirtual 191, 3) := by decide +kernel
theorem dX11_thing_13 : decode cX11_thing 13 = .ok (.ifCond .ne 5, 3) := by decide +kernel
theorem dX11_thing_16 : decode cX11_thing 16 = .ok (.iconst (-1), 1) := by decide +kernel
theorem dX11_thing_17 : decode cX11_thing 17 = .ok (.ireturn, 1) := by decide +kernel
theorem dX11_thing_18 : decode cX11_thing 18 = .ok (.aload_n 0, 1) := by decide +kernel
theorem dX11_thing_19 : decode cX11_thing 19 = .ok (.getfield 37, 3) := by decide +kernel
theorem dX11_thing_22 : decode cX11_thing 22 = .ok (.iload_n 1, 1) := by decide +kernel
theorem dX11_thing_23 : decode cX11_thing 23 = .ok (.iload_n 2, 1) := by decide +kernel
theorem dX11_thing_24 : decode cX11_thing 24 = .ok (.invokestatic 184, 3) := by decide +kernel
theorem dX11_thing_27 : decode cX11_thing 27 = .ok (.ifCond .eq 30, 3) := by decide +kernel
theorem dX11_thing_30 : decode cX11_thing 30 = .ok (.aload_n 0, 1) := by decide +kernel
theorem dX11_thing_31 : decode cX11_thing 31 = .ok (.aload_n 0, 1) := by decide +kernel
theorem dX11_thing_32 : decode cX11_thing 32 = .ok (.getfield 37, 3) := by decide +kernel
theorem dX11_thing_35 : decode cX11_thing 35 = .ok (.bipush 7, 2) := by decide +kernel
theorem dX11_thing_37 : decode cX11_thing 37 = .ok (.bipush 8, 2) := by decide +kernel
theorem dX11_thing_39 : decode cX11_thing 39 = .ok (.iload_n 1, 1) := by decide +kernel
theorem dX11_thing_40 : decode cX11_thing 40 = .ok (.imul, 1) := by decide +kernel
theorem dX11_thing_41 : decode cX11_thing 41 = .ok (.iadd, 1) := by decide +kernel
theorem dX11_thing_42 : decode cX11_thing 42 = .ok (.iload_n 2, 1) := by decide +kernel
theorem dX11_thing_43 : decode cX11_thing 43 = .ok (.iadd, 1) := by decide +kernel
theorem dX11_thing_44 : decode cX11_thing 44 = .ok (.iaload, 1) := by decide +kernel
theorem dX11_thing_45 : decode cX11_thing 45 = .ok (.aload_n 0, 1) := by decide +kernel
theorem dX11_thing_46 : decode cX11_thing 46 = .ok (.iload_n 1, 1) := by decide +kernel
theorem dX11_thing_47 : decode cX11_thing 47 = .ok (.iload_n 2, 1) := by decide +kernel
theorem dX11_thing_48 : decode cX11_thing 48 = .ok (.invokevirtual 207, 3) := by decide +kernel
theorem dX11_thing_51 : decode cX11_thing 51 = .ok (.invokevirtual 210, 3) := by decide +kernel
theorem dX11_thing_54 : decode cX11_thing 54 = .ok (.goto 5, 3) := by decide +kernel
theorem dX11_thing_57 : decode cX11_thing 57 = .ok (.bipush (-9), 2) := by decide +kernel
theorem dX11_thing_59 : decode cX11_thing 59 = .ok (.ireturn, 1) := by decide +kernel
def fX11_thing (σ : St) (p1 : Int32) (p2 : Int32) : Option (St × Int32) := cl (fX11_isHouse σ p1) (fun σ1 r2 => (if r2 = 0 then some (σ1, (-1)) else cl (fX11_isColour σ1 p2) (fun σ3 r4 => (if r4 = 0 then some (σ3, (-1)) else cl (fX11_owns σ3 10 p1 p2) (fun σ5 r6 => (if r6 = 0 then some (σ5, (-9)) else rd LM σ5 10 ((7 + (8 * p1)) + p2) (fun x7 => cl (fX11_pays σ5 p1 p2) (fun σ8 r9 => cl (fX11_answer σ8 x7 r9) (fun σ10 r11 => some (σ10, r11))))))))))
set_option maxHeartbeats 4000000 in
set_option maxRecDepth 100000 in
theorem ctX11_thing (l : Launch) (g : GG) (σ : St) (p1 : Int32) (p2 : Int32) (σ' : St) (r : Int32) (hE : fX11_thing σ p1 p2 = some (σ', r)) : MI 25 entM l g yX11_thing (Cond.code yX11_thing cX11_thing 3 (some .int) :: gtbl) (rmD 4) [.ref (g.2.1 0), .int p1, .int p2] σ σ' r := by
  refine mi_i (own := RX11) (lv := [(0, .ref (g.2.1 0)), (1, .int p1), (2, .int p2)]) (by decide) rfl (Nat.le_of_ble_eq_true rfl) rfl (fun p e s m below meth c ls args Q A H0 H locs C hK hA hQ hs hl => ?_)
  have hx := C.1
  have hb := C.2.1
  unfold fX11_thing at hE
  refine lv_aload_n hx hb dX11_thing_0 rfl (lv_at hl 0 rfl) ?_
  refine lv_iload_n hx hb dX11_thing_1 rfl (lv_at hl 1 rfl) ?_
  obtain ⟨σ1, r2, hE1, hE⟩ := cl_e hE
  refine x_civ (As := [.int p1]) (rest := []) C hl.1 hK hs hA ⟨Nat.le_refl 0, Nat.le_refl 0⟩ (ctX11_isHouse l g _ _ _ _ hE1) (cw_X11_201 C ⟨Nat.le_of_ble_eq_true rfl, Nat.le_of_ble_eq_true rfl⟩) (hs.recv hK 0 (by decide) rfl rfl) rfl rfl (Nat.le_of_ble_eq_true rfl) dX11_thing_2 (fun H locs hs => ?_)
  refine lv_if_eq (tgt := 16) hx hb dX11_thing_5 (by decide) (fun hc => ?_) (fun hc => ?_)
  · have hE := if_t hc hE
    refine lv_iconst (v := (-1)) hx hb dX11_thing_16 (by decide) ?_
    exact hQ hs hE dX11_thing_17
  · have hE := if_f hc hE
    refine lv_aload_n hx hb dX11_thing_8 rfl (lv_at hl 0 rfl) ?_
    refine lv_iload_n hx hb dX11_thing_9 rfl (lv_at hl 2 rfl) ?_
    obtain ⟨σ3, r4, hE1, hE⟩ := cl_e hE
    refine x_civ (As := [.int p2]) (rest := []) C hl.1 hK hs hA ⟨Nat.le_refl 0, Nat.le_refl 0⟩ (ctX11_isColour l g _ _ _ _ hE1) (cw_X11_191 C ⟨Nat.le_of_ble_eq_true rfl, Nat.le_of_ble_eq_true rfl⟩) (hs.recv hK 0 (by decide) rfl rfl) rfl rfl (Nat.le_of_ble_eq_true rfl) dX11_thing_10 (fun H locs hs => ?_)
    refine lv_if_ne (tgt := 18) hx hb dX11_thing_13 (by decide) (fun hc => ?_) (fun hc => ?_)
    · have hE := if_f hc hE
      refine lv_aload_n hx hb dX11_thing_18 rfl (lv_at hl 0 rfl) ?_
      refine gf_X11_37_0 C hK hs dX11_thing_19 ?_
      refine lv_iload_n hx hb dX11_thing_22 rfl (lv_at hl 1 rfl) ?_
      refine lv_iload_n hx hb dX11_thing_23 rfl (lv_at hl 2 rfl) ?_
      obtain ⟨σ5, r6, hE1, hE⟩ := cl_e hE
      refine x_cis (As := [.ref (g.2.1 10), .int p1, .int p2]) (rest := []) C hl.1 hK hs hA ⟨Nat.le_refl 0, Nat.le_refl 0⟩ (ctX11_owns l g _ _ _ _ _ _ hE1) (cw_X11_184 C ⟨Nat.le_of_ble_eq_true rfl, Nat.le_of_ble_eq_true rfl⟩) rfl rfl (Nat.le_of_ble_eq_true rfl) dX11_thing_24 (fun H locs hs => ?_)
      refine lv_if_eq (tgt := 57) hx hb dX11_thing_27 (by decide) (fun hc => ?_) (fun hc => ?_)
      · have hE := if_t hc hE
        refine lv_bipush (v := (-9)) hx hb dX11_thing_57 (by decide) ?_
        exact hQ hs hE dX11_thing_59
      · have hE := if_f hc hE
        refine lv_aload_n hx hb dX11_thing_30 rfl (lv_at hl 0 rfl) ?_
        refine lv_aload_n hx hb dX11_thing_31 rfl (lv_at hl 0 rfl) ?_
        refine gf_X11_37_0 C hK hs dX11_thing_32 ?_
        refine lv_bipush (v := 7) hx hb dX11_thing_35 (by decide) ?_
        refine lv_bipush (v := 8) hx hb dX11_thing_37 (by decide) ?_
        refine lv_iload_n hx hb dX11_thing_39 rfl (lv_at hl 1 rfl) ?_
        refine lv_imul hx hb dX11_thing_40 ?_
        refine lv_iadd hx hb dX11_thing_41 ?_
        refine lv_iload_n hx hb dX11_thing_42 rfl (lv_at hl 2 rfl) ?_
        refine lv_iadd hx hb dX11_thing_43 ?_
        obtain ⟨hi, x7, ex7, hE⟩ := rd_w hE
        refine y_ald layM C hK hs hi ex7 dX11_thing_44 ?_
        refine lv_aload_n hx hb dX11_thing_45 rfl (lv_at hl 0 rfl) ?_
        refine lv_iload_n hx hb dX11_thing_46 rfl (lv_at hl 1 rfl) ?_
        refine lv_iload_n hx hb dX11_thing_47 rfl (lv_at hl 2 rfl) ?_
        obtain ⟨σ8, r9, hE1, hE⟩ := cl_e hE
        refine x_civ (As := [.int p1, .int p2]) (rest := [.int x7, .ref (g.2.1 0)]) C hl.1 hK hs hA ⟨Nat.le_refl 0, Nat.le_refl 0⟩ (ctX11_pays l g _ _ _ _ _ hE1) (cw_X11_207 C ⟨Nat.le_of_ble_eq_true rfl, Nat.le_of_ble_eq_true rfl⟩) (hs.recv hK 0 (by decide) rfl rfl) rfl rfl (Nat.le_of_ble_eq_true rfl) dX11_thing_48 (fun H locs hs => ?_)
        obtain ⟨σ10, r11, hE1, hE⟩ := cl_e hE
        refine x_civ (As := [.int x7, .int r9]) (rest := []) C hl.1 hK hs hA ⟨Nat.le_refl 0, Nat.le_refl 0⟩ (ctX11_answer l g _ _ _ _ _ hE1) (cw_X11_210 C ⟨Nat.le_of_ble_eq_true rfl, Nat.le_of_ble_eq_true rfl⟩) (hs.recv hK 0 (by decide) rfl rfl) rfl rfl (Nat.le_of_ble_eq_true rfl) dX11_thing_51 (fun H locs hs => ?_)
        refine lv_goto (tgt := 59) hx hb dX11_thing_54 (by decide) ?_
        exact hQ hs hE dX11_thing_59
    · have hE := if_t hc hE
      refine lv_iconst (v := (-1)) hx hb dX11_thing_16 (by decide) ?_
      exact hQ hs hE dX11_thing_17
theorem dX11_isOf_0 : decode cX11_isOf 0 = .ok (.iload_n 0, 1) := by decide +kernel
theorem dX11_isOf_1 : decode cX11_isOf 1 = .ok (.iload_n 1, 1) := by decide +kernel
theorem dX11_isOf_2 : decode cX11_isOf 2 = .ok (.if_icmp .eq 23, 3) := by decide +kernel
theorem dX11_isOf_5 : decode cX11_isOf 5 = .ok (.iload_n 1, 1) := by decide +kernel
theorem dX11_isOf_6 : decode cX11_isOf 6 = .ok (.iconst 1, 1) := by decide +kernel
theorem dX11_isOf_7 : decode cX11_isOf 7 = .ok (.if_icmp .ne 8, 3) := by decide +kernel
theorem dX11_isOf_10 : decode cX11_isOf 10 = .ok (.iload_n 0, 1) := by decide +kernel
theorem dX11_isOf_11 : decode cX11_isOf 11 = .ok (.iconst 4, 1) := by decide +kernel
theorem dX11_isOf_12 : decode cX11_isOf 12 = .ok (.if_icmp .eq 13, 3) := by decide +kernel
theorem dX11_isOf_15 : decode cX11_isOf 15 = .ok (.iload_n 1, 1) := by decide +kernel
theorem dX11_isOf_16 : decode cX11_isOf 16 = .ok (.iconst 2, 1) := by decide +kernel
theorem dX11_isOf_17 : decode cX11_isOf 17 = .ok (.if_icmp .ne 12, 3) := by decide +kernel
theorem dX11_isOf_20 : decode cX11_isOf 20 = .ok (.iload_n 0, 1) := by decide +kernel
theorem dX11_isOf_21 : decode cX11_isOf 21 = .ok (.iconst 5, 1) := by decide +kernel
theorem dX11_isOf_22 : decode cX11_isOf 22 = .ok (.if_icmp .ne 7, 3) := by decide +kernel
theorem dX11_isOf_25 : decode cX11_isOf 25 = .ok (.iconst 1, 1) := by decide +kernel
theorem dX11_isOf_26 : decode cX11_isOf 26 = .ok (.goto 4, 3) := by decide +kernel
theorem dX11_isOf_29 : decode cX11_isOf 29 = .ok (.iconst 0, 1) := by decide +kernel
theorem dX11_isOf_30 : decode cX11_isOf 30 = .ok (.ireturn, 1) := by decide +kernel
def fX11_isOf (σ : St) (p0 : Int32) (p1 : Int32) : Option (St × Int32) := jn (some (σ, 1)) (fun k1 => (if p0 = p1 then k1 else jn ((if p1 = 2 then (if p0 = 5 then k1 else some (σ, 0)) else some (σ, 0))) (fun k2 => (if p1 = 1 then (if p0 = 4 then k1 else k2) else k2))))
set_option maxHeartbeats 4000000 in
set_option maxRecDepth 100000 in
theorem ctX11_isOf (l : Launch) (g : GG) (σ : St) (p0 : Int32) (p1 : Int32) (σ' : St) (r : Int32) (hE : fX11_isOf σ p0 p1 = some (σ', r)) : MI 25 entM l g yX11_isOf (Cond.code yX11_isOf cX11_isOf 2 (some .boolean) :: gtbl) (rmD 1) [.int p0, .int p1] σ σ' r := by
  refine mi_z (own := RX11) (lv := [(0, .int p0), (1, .int p1)]) (by decide) rfl (Nat.le_of_ble_eq_true rfl) rfl (fun p e s m below meth c ls args Q A H0 H locs C hK hA hQ hs hl => ?_)
  have hx := C.1
  have hb := C.2.1
  unfold fX11_isOf at hE
  refine lv_iload_n hx hb dX11_isOf_0 rfl (lv_at hl 0 rfl) ?_
  refine lv_iload_n hx hb dX11_isOf_1 rfl (lv_at hl 1 rfl) ?_
  refine jn0 hE (fun k1 hE hk1 => ?_)
  have hJk1 : ∀  (H : Heap) (locs : List Loc) (ls : Array Slot), HW 25 entM g A H0 H locs σ → lv_has ls 2 [] → k1 = some (σ', r) → W p l e (rmD 1) s m args below meth c H locs 0 0 Q (F0 m 25 ls []) := by
    intro H locs ls hs hl hE
    have hE := hk1 hE
    refine lv_iconst (v := 1) hx hb dX11_isOf_25 (by decide) ?_
    refine lv_goto (tgt := 30) hx hb dX11_isOf_26 (by decide) ?_
    exact hQ hs rfl hE dX11_isOf_30
  refine lv_icmp_eq (tgt := 25) hx hb dX11_isOf_2 (by decide) (fun hc => ?_) (fun hc => ?_)
  · have hE := if_t hc hE
    exact hJk1  _ _ _ hs (lv_sub hl [] rfl) hE
  · have hE := if_f hc hE
    refine lv_iload_n hx hb dX11_isOf_5 rfl (lv_at hl 1 rfl) ?_
    refine lv_iconst (v := 1) hx hb dX11_isOf_6 (by decide) ?_
    refine jn0 hE (fun k2 hE hk2 => ?_)
    have hJk2 : ∀  (H : Heap) (locs : List Loc) (ls : Array Slot), HW 25 entM g A H0 H locs σ → lv_has ls 2 [(0, .int p0), (1, .int p1)] → k2 = some (σ', r) → W p l e (rmD 1) s m args below meth c H locs 0 0 Q (F0 m 15 ls []) := by
      intro H locs ls hs hl hE
      have hE := hk2 hE
      refine lv_iload_n hx hb dX11_isOf_15 rfl (lv_at hl 1 rfl) ?_
      refine lv_iconst (v := 2) hx hb dX11_isOf_16 (by decide) ?_
      refine lv_icmp_ne (tgt := 29) hx hb dX11_isOf_17 (by decide) (fun hc => ?_) (fun hc => ?_)
      · have hE := if_f hc hE
        refine lv_iconst (v := 0) hx hb dX11_isOf_29 (by decide) ?_
        exact hQ hs rfl hE dX11_isOf_30
      · have hE := if_t hc hE
        refine lv_iload_n hx hb dX11_isOf_20 rfl (lv_at hl 0 rfl) ?_
        refine lv_iconst (v := 5) hx hb dX11_isOf_21 (by decide) ?_
        refine lv_icmp_ne (tgt := 29) hx hb dX11_isOf_22 (by decide) (fun hc => ?_) (fun hc => ?_)
        · have hE := if_f hc hE
          refine lv_iconst (v := 0) hx hb dX11_isOf_29 (by decide) ?_
          exact hQ hs rfl hE dX11_isOf_30
        · have hE := if_t hc hE
          exact hJk1  _ _ _ hs (lv_sub hl [] rfl) hE
    refine lv_icmp_ne (tgt := 15) hx hb dX11_isOf_7 (by decide) (fun hc => ?_) (fun hc => ?_)
    · have hE := if_f hc hE
      exact hJk2  _ _ _ hs (lv_sub hl [0, 1] rfl) hE
    · have hE := if_t hc hE
      refine lv_iload_n hx hb dX11_isOf_10 rfl (lv_at hl 0 rfl) ?_
      refine lv_iconst (v := 4) hx hb dX11_isOf_11 (by decide) ?_
      refine lv_icmp_eq (tgt := 25) hx hb dX11_isOf_12 (by decide) (fun hc => ?_) (fun hc => ?_)
      · have hE := if_t hc hE
        exact hJk1  _ _ _ hs (lv_sub hl [] rfl) hE
      · have hE := if_f hc hE
        exact hJk2  _ _ _ hs (lv_sub hl [0, 1] rfl) hE
theorem dX11_dearest_0 : decode cX11_dearest 0 = .ok (.iconst 0, 1) := by decide +kernel
theorem dX11_dearest_1 : decode cX11_dearest 1 = .ok (.istore_n 1, 1) := by decide +kernel
theorem dX11_dearest_2 : decode cX11_dearest 2 = .ok (.iconst 1, 1) := by decide +kernel
theorem dX11_dearest_3 : decode cX11_dearest 3 = .ok (.istore_n 2, 1) := by decide +kernel
theorem dX11_dearest_4 : decode cX11_dearest 4 = .ok (.iload_n 2, 1) := by decide +kernel
theorem dX11_dearest_5 : decode cX11_dearest 5 = .ok (.aload_n 0, 1) := by decide +kernel
theorem dX11_dearest_6 : decode cX11_dearest 6 = .ok (.getfield 163, 3) := by decide +kernel
theorem dX11_dearest_9 : decode cX11_dearest 9 = .ok (.if_icmp .ge 30, 3) := by decide +kernel
theorem dX11_dearest_12 : decode cX11_dearest 12 = .ok (.aload_n 0, 1) := by decide +kernel
theorem dX11_dearest_13 : decode cX11_dearest 13 = .ok (.getfield 31, 3) := by decide +kernel
theorem dX11_dearest_16 : decode cX11_dearest 16 = .ok (.iload_n 2, 1) := by decide +kernel
theorem dX11_dearest_17 : decode cX11_dearest 17 = .ok (.iaload, 1) := by decide +kernel
theorem dX11_dearest_18 : decode cX11_dearest 18 = .ok (.aload_n 0, 1) := by decide +kernel
theorem dX11_dearest_19 : decode cX11_dearest 19 = .ok (.getfield 31, 3) := by decide +kernel
theorem dX11_dearest_22 : decode cX11_dearest 22 = .ok (.iload_n 1, 1) := by decide +kernel
theorem dX11_dearest_23 : decode cX11_dearest 23 = .ok (.iaload, 1) := by decide +kernel
theorem dX11_dearest_24 : decode cX11_dearest 24 = .ok (.if_icmp .le 7, 3) := by decide +kernel
theorem dX11_dearest_27 : decode cX11_dearest 27 = .ok (.iload_n 2, 1) := by decide +kernel
theorem dX11_dearest_28 : decode cX11_dearest 28 = .ok (.goto 4, 3) := by decide +kernel
theorem dX11_dearest_31 : decode cX11_dearest 31 = .ok (.iload_n 1, 1) := by decide +kernel
theorem dX11_dearest_32 : decode cX11_dearest 32 = .ok (.istore_n 1, 1) := by decide +kernel
theorem dX11_dearest_33 : decode cX11_dearest 33 = .ok (.iinc 2 1, 3) := by decide +kernel
theorem dX11_dearest_36 : decode cX11_dearest 36 = .ok (.goto (-32), 3) := by decide +kernel
theorem dX11_dearest_39 : decode cX11_dearest 39 = .ok (.aload_n 0, 1) := by decide +kernel
theorem dX11_dearest_40 : decode cX11_dearest 40 = .ok (.getfield 31, 3) := by decide +kernel
theorem dX11_dearest_43 : decode cX11_dearest 43 = .ok (.iload_n 1, 1) := by decide +kernel
theorem dX11_dearest_44 : decode cX11_dearest 44 = .ok (.iaload, 1) := by decide +kernel
theorem dX11_dearest_45 : decode cX11_dearest 45 = .ok (.ireturn, 1) := by decide +kernel
def fX11_dearest_L4 : Nat → St → Int32 → Int32 → (St → Int32 → Int32 → Option (St × Int32)) → Option (St × Int32)
  | 0, _, _, _, _ => none
  | n + 1, σ1, v2, v3, k => (if (σ1.1 0 7) ≤ v3 then k σ1 v2 v3 else rd LM σ1 8 v3 (fun x4 => rd LM σ1 8 v2 (fun x5 => pv (if x4 ≤ x5 then v2 else v3) (fun (y7 : Int32) => fX11_dearest_L4 n σ1 y7 (v3 + 1) k))))
def fX11_dearest (σ : St) : Option (St × Int32) := fX11_dearest_L4 10000 σ 0 1 (fun σ8 v9 v10 => rd LM σ8 8 v9 (fun x11 => some (σ8, x11)))
set_option maxHeartbeats 4000000 in
set_option maxRecDepth 100000 in
theorem ctX11_dearest (l : Launch) (g : GG) (σ : St) (σ' : St) (r : Int32) (hE : fX11_dearest σ  = some (σ', r)) : MI 25 entM l g yX11_dearest (Cond.code yX11_dearest cX11_dearest 3 (some .int) :: gtbl) (rmD 1) [.ref (g.2.1 0)] σ σ' r := by
  refine mi_i (own := RX11) (lv := [(0, .ref (g.2.1 0))]) (by decide) rfl (Nat.le_of_ble_eq_true rfl) rfl (fun p e s m below meth c ls args Q A H0 H locs C hK hA hQ hs hl => ?_)
  have hx := C.1
  have hb := C.2.1
  unfold fX11_dearest at hE
  refine lv_iconst (v := 0) hx hb dX11_dearest_0 (by decide) ?_
  refine lv_istore_n (lv' := [(1, .int 0), (0, .ref (g.2.1 0))]) hx hb dX11_dearest_1 rfl hl (by decide) rfl (fun ls hl => ?_)
  refine lv_iconst (v := 1) hx hb dX11_dearest_2 (by decide) ?_
  refine lv_istore_n (lv' := [(2, .int 1), (1, .int 0), (0, .ref (g.2.1 0))]) hx hb dX11_dearest_3 rfl hl (by decide) rfl (fun ls hl => ?_)
  have hL4 : ∀ (n : Nat) (σ1 : St) (v2 : Int32) (v3 : Int32) (k : St → Int32 → Int32 → Option (St × Int32)), fX11_dearest_L4 n σ1 v2 v3 k = some (σ', r) → (∀ (σ1 : St) (v2 : Int32) (v3 : Int32) (H : Heap) (locs : List Loc) (ls : Array Slot), HW 25 entM g A H0 H locs σ1 → lv_has ls 3 [(0, .ref (g.2.1 0)), (1, .int v2), (2, .int v3)] → k σ1 v2 v3 = some (σ', r) → W p l e (rmD 1) s m args below meth c H locs 0 0 Q (F0 m 39 ls [])) → ∀ (H : Heap) (locs : List Loc) (ls : Array Slot), HW 25 entM g A H0 H locs σ1 → lv_has ls 3 [(0, .ref (g.2.1 0)), (1, .int v2), (2, .int v3)] → W p l e (rmD 1) s m args below meth c H locs 0 0 Q (F0 m 4 ls []) := by
    intro n
    induction n with
    | zero =>
      intro σ1 v2 v3 k hE
      rw [fX11_dearest_L4] at hE
      exact no_e hE
    | succ n ih =>
      intro σ1 v2 v3 k hE hk H locs ls hs hl
      rw [fX11_dearest_L4] at hE
      refine lv_iload_n hx hb dX11_dearest_4 rfl (lv_at hl 2 rfl) ?_
      refine lv_aload_n hx hb dX11_dearest_5 rfl (lv_at hl 0 rfl) ?_
      refine gf_X11_163_0 C hK hs dX11_dearest_6 ?_
      refine lv_icmp_ge (tgt := 39) hx hb dX11_dearest_9 (by decide) (fun hc => ?_) (fun hc => ?_)
      · have hE := if_t hc hE
        exact hk σ1 v2 v3 _ _ _ hs (lv_sub hl [0, 1, 2] rfl) hE
      · have hE := if_f hc hE
        refine lv_aload_n hx hb dX11_dearest_12 rfl (lv_at hl 0 rfl) ?_
        refine gf_X11_31_0 C hK hs dX11_dearest_13 ?_
        refine lv_iload_n hx hb dX11_dearest_16 rfl (lv_at hl 2 rfl) ?_
        obtain ⟨hi, x4, ex4, hE⟩ := rd_w hE
        refine y_ald layM C hK hs hi ex4 dX11_dearest_17 ?_
        refine lv_aload_n hx hb dX11_dearest_18 rfl (lv_at hl 0 rfl) ?_
        refine gf_X11_31_0 C hK hs dX11_dearest_19 ?_
        refine lv_iload_n hx hb dX11_dearest_22 rfl (lv_at hl 1 rfl) ?_
        obtain ⟨hi, x5, ex5, hE⟩ := rd_w hE
        refine y_ald layM C hK hs hi ex5 dX11_dearest_23 ?_
        refine pvw hE (fun k6 hE hk6 => ?_)
        have hJk6 : ∀ (y7 : Int32) (H : Heap) (locs : List Loc) (ls : Array Slot), HW 25 entM g A H0 H locs σ1 → lv_has ls 3 [(0, .ref (g.2.1 0)), (2, .int v3)] → k6 y7 = some (σ', r) → W p l e (rmD 1) s m args below meth c H locs 0 0 Q (F0 m 32 ls [.int y7]) := by
          intro y7 H locs ls hs hl hE
          have hE := hk6 _ hE
          refine lv_istore_n (lv' := [(1, .int y7), (0, .ref (g.2.1 0)), (2, .int v3)]) hx hb dX11_dearest_32 rfl hl (by decide) rfl (fun ls hl => ?_)
          refine lv_iinc (v := v3 + 1) (lv' := [(2, .int (v3 + 1)), (1, .int y7), (0, .ref (g.2.1 0))]) hx hb dX11_dearest_33 hl (k := 2) rfl rfl (by decide) rfl (fun ls hl => ?_)
          refine lv_goto (tgt := 4) hx hb dX11_dearest_36 (by decide) ?_
          exact ih _ _ _ _ hE hk _ _ _ hs (lv_sub hl [2, 1, 0] rfl)
        refine lv_icmp_le (tgt := 31) hx hb dX11_dearest_24 (by decide) (fun hc => ?_) (fun hc => ?_)
        · have hE := pv_t hc hE
          refine lv_iload_n hx hb dX11_dearest_31 rfl (lv_at hl 1 rfl) ?_
          exact hJk6 v2 _ _ _ hs (lv_sub hl [0, 2] rfl) hE
        · have hE := pv_f hc hE
          refine lv_iload_n hx hb dX11_dearest_27 rfl (lv_at hl 2 rfl) ?_
          refine lv_goto (tgt := 32) hx hb dX11_dearest_28 (by decide) ?_
          exact hJk6 v3 _ _ _ hs (lv_sub hl [0, 2] rfl) hE
  refine hL4 _ _ _ _ _ hE (fun σ8 v9 v10 H locs ls hs hl hE => ?_) H locs ls hs (lv_sub hl [2, 1, 0] rfl)
  refine lv_aload_n hx hb dX11_dearest_39 rfl (lv_at hl 0 rfl) ?_
  refine gf_X11_31_0 C hK hs dX11_dearest_40 ?_
  refine lv_iload_n hx hb dX11_dearest_43 rfl (lv_at hl 1 rfl) ?_
  obtain ⟨hi, x11, ex11, hE⟩ := rd_w hE
  refine y_ald layM C hK hs hi ex11 dX11_dearest_44 ?_
  exact hQ hs hE dX11_dearest_45
