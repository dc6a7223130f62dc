theorem dX11_in_0 : decode cX11_in 0 = .ok (.lload_n 0, 1) := by decide +kernel
theorem dX11_in_1 : decode cX11_in 1 = .ok (.lload_n 2, 1) := by decide +kernel
theorem dX11_in_2 : decode cX11_in 2 = .ok (.lcmp, 1) := by decide +kernel
theorem dX11_in_3 : decode cX11_in 3 = .ok (.ifCond .lt 14, 3) := by decide +kernel
theorem dX11_in_6 : decode cX11_in 6 = .ok (.lload_n 0, 1) := by decide +kernel
theorem dX11_in_7 : decode cX11_in 7 = .ok (.lload 4, 2) := by decide +kernel
theorem dX11_in_9 : decode cX11_in 9 = .ok (.lcmp, 1) := by decide +kernel
theorem dX11_in_10 : decode cX11_in 10 = .ok (.ifCond .gt 7, 3) := by decide +kernel
theorem dX11_in_13 : decode cX11_in 13 = .ok (.iconst 1, 1) := by decide +kernel
theorem dX11_in_14 : decode cX11_in 14 = .ok (.goto 4, 3) := by decide +kernel
theorem dX11_in_17 : decode cX11_in 17 = .ok (.iconst 0, 1) := by decide +kernel
theorem dX11_in_18 : decode cX11_in 18 = .ok (.ireturn, 1) := by decide +kernel
def fX11_in (σ : St) (p0 : Int64) (p2 : Int64) (p4 : Int64) : Option (St × Int32) := (if (lg_cmp p0 p2) < 0 then some (σ, 0) else (if 0 < (lg_cmp p0 p4) then some (σ, 0) else some (σ, 1)))
set_option maxHeartbeats 4000000 in
set_option maxRecDepth 100000 in
theorem ctX11_in (l : Launch) (g : GG) (σ : St) (p0 : Int64) (p2 : Int64) (p4 : Int64) (σ' : St) (r : Int32) (hE : fX11_in σ p0 p2 p4 = some (σ', r)) : MI 25 entM l g yX11_in (Cond.code yX11_in cX11_in 6 (some .boolean) :: gtbl) (rmD 1) [.long p0, .long p2, .long p4] σ σ' r := by
  refine mi_z (own := RX11) (lv := [(0, .long p0), (2, .long p2), (4, .long p4)]) (by decide) rfl (Nat.le_of_ble_eq_true rfl) rfl (fun p e s m below meth c ls args Q A H0 H locs C hK hA hQ hs hl => ?_)
  have hx := C.1
  have hb := C.2.1
  unfold fX11_in at hE
  refine lv_lload_n hx hb dX11_in_0 rfl (lv_at hl 0 rfl) ?_
  refine lv_lload_n hx hb dX11_in_1 rfl (lv_at hl 1 rfl) ?_
  refine W.lcmp hx hb dX11_in_2 ?_
  refine lv_if_lt (tgt := 17) hx hb dX11_in_3 (by decide) (fun hc => ?_) (fun hc => ?_)
  · have hE := if_t hc hE
    refine lv_iconst (v := 0) hx hb dX11_in_17 (by decide) ?_
    exact hQ hs rfl hE dX11_in_18
  · have hE := if_f hc hE
    refine lv_lload_n hx hb dX11_in_6 rfl (lv_at hl 0 rfl) ?_
    refine lv_lload hx hb dX11_in_7 (lv_at hl 2 rfl) ?_
    refine W.lcmp hx hb dX11_in_9 ?_
    refine lv_if_gt (tgt := 17) hx hb dX11_in_10 (by decide) (fun hc => ?_) (fun hc => ?_)
    · have hE := if_t hc hE
      refine lv_iconst (v := 0) hx hb dX11_in_17 (by decide) ?_
      exact hQ hs rfl hE dX11_in_18
    · have hE := if_f hc hE
      refine lv_iconst (v := 1) hx hb dX11_in_13 (by decide) ?_
      refine lv_goto (tgt := 18) hx hb dX11_in_14 (by decide) ?_
      exact hQ hs rfl hE dX11_in_18
theorem dX11_has_0 : decode cX11_has 0 = .ok (.iload_n 0, 1) := by decide +kernel
theorem dX11_has_1 : decode cX11_has 1 = .ok (.iload_n 1, 1) := by decide +kernel
theorem dX11_has_2 : decode cX11_has 2 = .ok (.ishr, 1) := by decide +kernel
theorem dX11_has_3 : decode cX11_has 3 = .ok (.iconst 1, 1) := by decide +kernel
theorem dX11_has_4 : decode cX11_has 4 = .ok (.iand, 1) := by decide +kernel
theorem dX11_has_5 : decode cX11_has 5 = .ok (.iconst 1, 1) := by decide +kernel
theorem dX11_has_6 : decode cX11_has 6 = .ok (.if_icmp .ne 7, 3) := by decide +kernel
theorem dX11_has_9 : decode cX11_has 9 = .ok (.iconst 1, 1) := by decide +kernel
theorem dX11_has_10 : decode cX11_has 10 = .ok (.goto 4, 3) := by decide +kernel
theorem dX11_has_13 : decode cX11_has 13 = .ok (.iconst 0, 1) := by decide +kernel
theorem dX11_has_14 : decode cX11_has 14 = .ok (.ireturn, 1) := by decide +kernel
def fX11_has (σ : St) (p0 : Int32) (p1 : Int32) : Option (St × Int32) := (if ((p0 >>> (p1 &&& 31)) &&& 1) = 1 then some (σ, 1) else some (σ, 0))
set_option maxHeartbeats 4000000 in
set_option maxRecDepth 100000 in
theorem ctX11_has (l : Launch) (g : GG) (σ : St) (p0 : Int32) (p1 : Int32) (σ' : St) (r : Int32) (hE : fX11_has σ p0 p1 = some (σ', r)) : MI 25 entM l g yX11_has (Cond.code yX11_has cX11_has 2 (some .boolean) :: gtbl) (rmD 1) [.int p0, .int p1] σ σ' r := by
  refine mi_z (own := RX11) (lv := [(0, .int p0), (1, .int p1)]) (by decide) rfl (Nat.le_of_ble_eq_true rfl) rfl (fun p e s m below meth c ls args Q A H0 H locs C hK hA hQ hs hl => ?_)
  have hx := C.1
  have hb := C.2.1
  unfold fX11_has at hE
  refine lv_iload_n hx hb dX11_has_0 rfl (lv_at hl 0 rfl) ?_
  refine lv_iload_n hx hb dX11_has_1 rfl (lv_at hl 1 rfl) ?_
  refine lv_ishr hx hb dX11_has_2 ?_
  refine lv_iconst (v := 1) hx hb dX11_has_3 (by decide) ?_
  refine lv_iand hx hb dX11_has_4 ?_
  refine lv_iconst (v := 1) hx hb dX11_has_5 (by decide) ?_
  refine lv_icmp_ne (tgt := 13) hx hb dX11_has_6 (by decide) (fun hc => ?_) (fun hc => ?_)
  · have hE := if_f hc hE
    refine lv_iconst (v := 0) hx hb dX11_has_13 (by decide) ?_
    exact hQ hs rfl hE dX11_has_14
  · have hE := if_t hc hE
    refine lv_iconst (v := 1) hx hb dX11_has_9 (by decide) ?_
    refine lv_goto (tgt := 14) hx hb dX11_has_10 (by decide) ?_
    exact hQ hs rfl hE dX11_has_14
theorem dX11_bits_0 : decode cX11_bits 0 = .ok (.iconst 0, 1) := by decide +kernel
theorem dX11_bits_1 : decode cX11_bits 1 = .ok (.istore_n 1, 1) := by decide +kernel
theorem dX11_bits_2 : decode cX11_bits 2 = .ok (.iload_n 0, 1) := by decide +kernel
theorem dX11_bits_3 : decode cX11_bits 3 = .ok (.istore_n 2, 1) := by decide +kernel
theorem dX11_bits_4 : decode cX11_bits 4 = .ok (.iload_n 2, 1) := by decide +kernel
theorem dX11_bits_5 : decode cX11_bits 5 = .ok (.ifCond .eq 15, 3) := by decide +kernel
theorem dX11_bits_8 : decode cX11_bits 8 = .ok (.iinc 1 1, 3) := by decide +kernel
theorem dX11_bits_11 : decode cX11_bits 11 = .ok (.iload_n 2, 1) := by decide +kernel
theorem dX11_bits_12 : decode cX11_bits 12 = .ok (.iload_n 2, 1) := by decide +kernel
theorem dX11_bits_13 : decode cX11_bits 13 = .ok (.iconst 1, 1) := by decide +kernel
theorem dX11_bits_14 : decode cX11_bits 14 = .ok (.isub, 1) := by decide +kernel
theorem dX11_bits_15 : decode cX11_bits 15 = .ok (.iand, 1) := by decide +kernel
theorem dX11_bits_16 : decode cX11_bits 16 = .ok (.istore_n 2, 1) := by decide +kernel
theorem dX11_bits_17 : decode cX11_bits 17 = .ok (.goto (-13), 3) := by decide +kernel
theorem dX11_bits_20 : decode cX11_bits 20 = .ok (.iload_n 1, 1) := by decide +kernel
theorem dX11_bits_21 : decode cX11_bits 21 = .ok (.ireturn, 1) := by decide +kernel
def fX11_bits_L4 : Nat → St → Int32 → Int32 → (St → Int32 → Int32 → Option (St × Int32)) → Option (St × Int32)
  | 0, _, _, _, _ => none
  | n + 1, σ1, v2, v3, k => (if v3 = 0 then k σ1 v2 v3 else fX11_bits_L4 n σ1 (v2 + 1) (v3 &&& (v3 - 1)) k)
def fX11_bits (σ : St) (p0 : Int32) : Option (St × Int32) := fX11_bits_L4 10000 σ 0 p0 (fun σ4 v5 v6 => some (σ4, v5))
set_option maxHeartbeats 4000000 in
set_option maxRecDepth 100000 in
theorem ctX11_bits (l : Launch) (g : GG) (σ : St) (p0 : Int32) (σ' : St) (r : Int32) (hE : fX11_bits σ p0 = some (σ', r)) : MI 25 entM l g yX11_bits (Cond.code yX11_bits cX11_bits 3 (some .int) :: gtbl) (rmD 1) [.int p0] σ σ' r := by
  refine mi_i (own := RX11) (lv := [(0, .int p0)]) (by decide) rfl (Nat.le_of_ble_eq_true rfl) rfl (fun p e s m below meth c ls args Q A H0 H locs C hK hA hQ hs hl => ?_)
  have hx := C.1
  have hb := C.2.1
  unfold fX11_bits at hE
  refine lv_iconst (v := 0) hx hb dX11_bits_0 (by decide) ?_
  refine lv_istore_n (lv' := [(1, .int 0), (0, .int p0)]) hx hb dX11_bits_1 rfl hl (by decide) rfl (fun ls hl => ?_)
  refine lv_iload_n hx hb dX11_bits_2 rfl (lv_at hl 1 rfl) ?_
  refine lv_istore_n (lv' := [(2, .int p0), (1, .int 0), (0, .int p0)]) hx hb dX11_bits_3 rfl hl (by decide) rfl (fun ls hl => ?_)
  have hL4 : ∀ (n : Nat) (σ1 : St) (v2 : Int32) (v3 : Int32) (k : St → Int32 → Int32 → Option (St × Int32)), fX11_bits_L4 n σ1 v2 v3 k = some (σ', r) → (∀ (σ1 : St) (v2 : Int32) (v3 : Int32) (H : Heap) (locs : List Loc) (ls : Array Slot), HW 25 entM g A H0 H locs σ1 → lv_has ls 3 [(1, .int v2), (2, .int v3)] → k σ1 v2 v3 = some (σ', r) → W p l e (rmD 1) s m args below meth c H locs 0 0 Q (F0 m 20 ls [])) → ∀ (H : Heap) (locs : List Loc) (ls : Array Slot), HW 25 entM g A H0 H locs σ1 → lv_has ls 3 [(1, .int v2), (2, .int v3)] → W p l e (rmD 1) s m args below meth c H locs 0 0 Q (F0 m 4 ls []) := by
    intro n
    induction n with
    | zero =>
      intro σ1 v2 v3 k hE
      rw [fX11_bits_L4] at hE
      exact no_e hE
    | succ n ih =>
      intro σ1 v2 v3 k hE hk H locs ls hs hl
      rw [fX11_bits_L4] at hE
      refine lv_iload_n hx hb dX11_bits_4 rfl (lv_at hl 1 rfl) ?_
      refine lv_if_eq (tgt := 20) hx hb dX11_bits_5 (by decide) (fun hc => ?_) (fun hc => ?_)
      · have hE := if_t hc hE
        exact hk σ1 v2 v3 _ _ _ hs (lv_sub hl [0, 1] rfl) hE
      · have hE := if_f hc hE
        refine lv_iinc (v := v2 + 1) (lv' := [(1, .int (v2 + 1)), (2, .int v3)]) hx hb dX11_bits_8 hl (k := 0) rfl rfl (by decide) rfl (fun ls hl => ?_)
        refine lv_iload_n hx hb dX11_bits_11 rfl (lv_at hl 1 rfl) ?_
        refine lv_iload_n hx hb dX11_bits_12 rfl (lv_at hl 1 rfl) ?_
        refine lv_iconst (v := 1) hx hb dX11_bits_13 (by decide) ?_
        refine lv_isub hx hb dX11_bits_14 ?_
        refine lv_iand hx hb dX11_bits_15 ?_
        refine lv_istore_n (lv' := [(2, .int (v3 &&& (v3 - 1))), (1, .int (v2 + 1))]) hx hb dX11_bits_16 rfl hl (by decide) rfl (fun ls hl => ?_)
        refine lv_goto (tgt := 4) hx hb dX11_bits_17 (by decide) ?_
        exact ih _ _ _ _ hE hk _ _ _ hs (lv_sub hl [1, 0] rfl)
  refine hL4 _ _ _ _ _ hE (fun σ4 v5 v6 H locs ls hs hl hE => ?_) H locs ls hs (lv_sub hl [1, 0] rfl)
  refine lv_iload_n hx hb dX11_bits_20 rfl (lv_at hl 0 rfl) ?_
  exact hQ hs hE dX11_bits_21
theorem dX11_less_0 : decode cX11_less 0 = .ok (.iload_n 0, 1) := by decide +kernel
theorem dX11_less_1 : decode cX11_less 1 = .ok (.iload_n 1, 1) := by decide +kernel
theorem dX11_less_2 : decode cX11_less 2 = .ok (.if_icmp .ge 7, 3) := by decide +kernel
theorem dX11_less_5 : decode cX11_less 5 = .ok (.iload_n 0, 1) := by decide +kernel
theorem dX11_less_6 : decode cX11_less 6 = .ok (.goto 4, 3) := by decide +kernel
theorem dX11_less_9 : decode cX11_less 9 = .ok (.iload_n 1, 1) := by decide +kernel
theorem dX11_less_10 : decode cX11_less 10 = .ok (.ireturn, 1) := by decide +kernel
def fX11_less (σ : St) (p0 : Int32) (p1 : Int32) : Option (St × Int32) := (if p1 ≤ p0 then some (σ, p1) else some (σ, p0))
set_option maxHeartbeats 4000000 in
set_option maxRecDepth 100000 in
theorem ctX11_less (l : Launch) (g : GG) (σ : St) (p0 : Int32) (p1 : Int32) (σ' : St) (r : Int32) (hE : fX11_less σ p0 p1 = some (σ', r)) : MI 25 entM l g yX11_less (Cond.code yX11_less cX11_less 2 (some .int) :: gtbl) (rmD 1) [.int p0, .int p1] σ σ' r := by
  refine mi_i (own := RX11) (lv := [(0, .int p0), (1, .int p1)]) (by decide) rfl (Nat.le_of_ble_eq_true rfl) rfl (fun p e s m below meth c ls args Q A H0 H locs C hK hA hQ hs hl => ?_)
  have hx := C.1
  have hb := C.2.1
  unfold fX11_less at hE
  refine lv_iload_n hx hb dX11_less_0 rfl (lv_at hl 0 rfl) ?_
  refine lv_iload_n hx hb dX11_less_1 rfl (lv_at hl 1 rfl) ?_
  refine lv_icmp_ge (tgt := 9) hx hb dX11_less_2 (by decide) (fun hc => ?_) (fun hc => ?_)
  · have hE := if_t hc hE
    refine lv_iload_n hx hb dX11_less_9 rfl (lv_at hl 1 rfl) ?_
    exact hQ hs hE dX11_less_10
  · have hE := if_f hc hE
    refine lv_iload_n hx hb dX11_less_5 rfl (lv_at hl 0 rfl) ?_
    refine lv_goto (tgt := 10) hx hb dX11_less_6 (by decide) ?_
    exact hQ hs hE dX11_less_10
theorem dX11_found_0 : decode cX11_found 0 = .ok (.aload_n 0, 1) := by decide +kernel
theorem dX11_found_1 : decode cX11_found 1 = .ok (.iload_n 1, 1) := by decide +kernel
theorem dX11_found_2 : decode cX11_found 2 = .ok (.putfield 87, 3) := by decide +kernel
theorem dX11_found_5 : decode cX11_found 5 = .ok (.aload_n 0, 1) := by decide +kernel
theorem dX11_found_6 : decode cX11_found 6 = .ok (.getfield 57, 3) := by decide +kernel
theorem dX11_found_9 : decode cX11_found 9 = .ok (.iload_n 1, 1) := by decide +kernel
theorem dX11_found_10 : decode cX11_found 10 = .ok (.dup2, 1) := by decide +kernel
theorem dX11_found_11 : decode cX11_found 11 = .ok (.iaload, 1) := by decide +kernel
theorem dX11_found_12 : decode cX11_found 12 = .ok (.iconst 1, 1) := by decide +kernel
theorem dX11_found_13 : decode cX11_found 13 = .ok (.iadd, 1) := by decide +kernel
theorem dX11_found_14 : decode cX11_found 14 = .ok (.iastore, 1) := by decide +kernel
theorem dX11_found_15 : decode cX11_found 15 = .ok (.bipush (-3), 2) := by decide +kernel
theorem dX11_found_17 : decode cX11_found 17 = .ok (.ireturn, 1) := by decide +kernel
def fX11_found (σ : St) (p1 : Int32) : Option (St × Int32) := pt (su σ 0 20 p1) (fun σ1 => rd LM σ1 15 p1 (fun x2 => wr LM σ1 15 p1 (x2 + 1) (fun σ3 => some (σ3, (-3)))))
set_option maxHeartbeats 4000000 in
set_option maxRecDepth 100000 in
theorem ctX11_found (l : Launch) (g : GG) (σ : St) (p1 : Int32) (σ' : St) (r : Int32) (hE : fX11_found σ p1 = some (σ', r)) : MI 25 entM l g yX11_found (Cond.code yX11_found cX11_found 2 (some .int) :: gtbl) (rmD 1) [.ref (g.2.1 0), .int p1] σ σ' r := by
  refine mi_i (own := RX11) (lv := [(0, .ref (g.2.1 0)), (1, .int p1)]) (by decide) rfl (Nat.le_of_ble_eq_true rfl) rfl (fun p e s m below meth c ls args Q A H0 H locs C hK hA hQ hs hl => ?_)
  have hx := C.1
  have hb := C.2.1
  unfold fX11_found at hE
  refine lv_aload_n hx hb dX11_found_0 rfl (lv_at hl 0 rfl) ?_
  refine lv_iload_n hx hb dX11_found_1 rfl (lv_at hl 1 rfl) ?_
  obtain ⟨σ1, eσ1, hE⟩ := pt_w hE
  refine pf_X11_87_0 C hK hs eσ1 dX11_found_2 (fun H locs hs => ?_)
  refine lv_aload_n hx hb dX11_found_5 rfl (lv_at hl 0 rfl) ?_
  refine gf_X11_57_0 C hK hs dX11_found_6 ?_
  refine lv_iload_n hx hb dX11_found_9 rfl (lv_at hl 1 rfl) ?_
  refine lv_dup2_11 hx hb dX11_found_10 rfl rfl ?_
  obtain ⟨hi, x2, ex2, hE⟩ := rd_w hE
  refine y_ald layM C hK hs hi ex2 dX11_found_11 ?_
  refine lv_iconst (v := 1) hx hb dX11_found_12 (by decide) ?_
  refine lv_iadd hx hb dX11_found_13 ?_
  obtain ⟨hi, σ3, eσ3, hE⟩ := wr_w hE
  refine y_ast layM C hK hs hi eσ3 dX11_found_14 (fun H locs hs => ?_)
  refine lv_bipush (v := (-3)) hx hb dX11_found_15 (by decide) ?_
  exact hQ hs hE dX11_found_17
theorem dX11_tell_0 : decode cX11_tell 0 = .ok (.aload_n 0, 1) := by decide +kernel
theorem dX11_tell_1 : decode cX11_tell 1 = .ok (.iload_n 1, 1) := by decide +kernel
theorem dX11_tell_2 : decode cX11_tell 2 = .ok (.putfield 91, 3) := by decide +kernel
theorem dX11_tell_5 : decode cX11_tell 5 = .ok (.iconst 1, 1) := by decide +kernel
theorem dX11_tell_6 : decode cX11_tell 6 = .ok (.ireturn, 1) := by decide +kernel
def fX11_tell (σ : St) (p1 : Int32) : Option (St × Int32) := pt (su σ 0 17 p1) (fun σ1 => some (σ1, 1))
set_option maxHeartbeats 4000000 in
set_option maxRecDepth 100000 in
theorem ctX11_tell (l : Launch) (g : GG) (σ : St) (p1 : Int32) (σ' : St) (r : Int32) (hE : fX11_tell σ p1 = some (σ', r)) : MI 25 entM l g yX11_tell (Cond.code yX11_tell cX11_tell 2 (some .int) :: gtbl) (rmD 1) [.ref (g.2.1 0), .int p1] σ σ' r := by
  refine mi_i (own := RX11) (lv := [(0, .ref (g.2.1 0)), (1, .int p1)]) (by decide) rfl (Nat.le_of_ble_eq_true rfl) rfl (fun p e s m below meth c ls args Q A H0 H locs C hK hA hQ hs hl => ?_)
  have hx := C.1
  have hb := C.2.1
  unfold fX11_tell at hE
  refine lv_aload_n hx hb dX11_tell_0 rfl (lv_at hl 0 rfl) ?_
  refine lv_iload_n hx hb dX11_tell_1 rfl (lv_at hl 1 rfl) ?_
  obtain ⟨σ1, eσ1, hE⟩ := pt_w hE
  refine pf_X11_91_0 C hK hs eσ1 dX11_tell_2 (fun H locs hs => ?_)
  refine lv_iconst (v := 1) hx hb dX11_tell_5 (by decide) ?_
  exact hQ hs hE dX11_tell_6
theorem dX11_answer_0 : decode cX11_answer 0 = .ok (.aload_n 0, 1) := by decide +kernel
theorem dX11_answer_1 : decode cX11_answer 1 = .ok (.iload_n 2, 1) := by decide +kernel
theorem dX11_answer_2 : decode cX11_answer 2 = .ok (.putfield 91, 3) := by decide +kernel
theorem dX11_answer_5 : decode cX11_answer 5 = .ok (.iload_n 1, 1) := by decide +kernel
theorem dX11_answer_6 : decode cX11_answer 6 = .ok (.ireturn, 1) := by decide +kernel
def fX11_answer (σ : St) (p1 : Int32) (p2 : Int32) : Option (St × Int32) := pt (su σ 0 17 p2) (fun σ1 => some (σ1, p1))
set_option maxHeartbeats 4000000 in
set_option maxRecDepth 100000 in
theorem ctX11_answer (l : Launch) (g : GG) (σ : St) (p1 : Int32) (p2 : Int32) (σ' : St) (r : Int32) (hE : fX11_answer σ p1 p2 = some (σ', r)) : MI 25 entM l g yX11_answer (Cond.code yX11_answer cX11_answer 3 (some .int) :: gtbl) (rmD 1) [.ref (g.2.1 0), .int p1, .int p2] σ σ' r := by
  refine mi_i (own := RX11) (lv := [(0, .ref (g.2.1 0)), (1, .int p1), (2, .int p2)]) (by decide) rfl (Nat.le_of_ble_eq_true rfl) rfl (fun p e s m below meth c ls args Q A H0 H locs C hK hA hQ hs hl => ?_)
  have hx := C.1
  have hb := C.2.1
  unfold fX11_answer at hE
  refine lv_aload_n hx hb dX11_answer_0 rfl (lv_at hl 0 rfl) ?_
  refine lv_iload_n hx hb dX11_answer_1 rfl (lv_at hl 2 rfl) ?_
  obtain ⟨σ1, eσ1, hE⟩ := pt_w hE
  refine pf_X11_91_0 C hK hs eσ1 dX11_answer_2 (fun H locs hs => ?_)
  refine lv_iload_n hx hb dX11_answer_5 rfl (lv_at hl 1 rfl) ?_
  exact hQ hs hE dX11_answer_6
theorem dX11_isRow_0 : decode cX11_isRow 0 = .ok (.iload_n 0, 1) := by decide +kernel
theorem dX11_isRow_1 : decode cX11_isRow 1 = .ok (.i2l, 1) := by decide +kernel
theorem dX11_isRow_2 : decode cX11_isRow 2 = .ok (.lconst 0, 1) := by decide +kernel
theorem dX11_isRow_3 : decode cX11_isRow 3 = .ok (.ldc2_w 94, 3) := by decide +kernel
theorem dX11_isRow_6 : decode cX11_isRow 6 = .ok (.invokestatic 96, 3) := by decide +kernel
theorem dX11_isRow_9 : decode cX11_isRow 9 = .ok (.ireturn, 1) := by decide +kernel
def fX11_isRow (σ : St) (p0 : Int32) : Option (St × Int32) := cl (fX11_in σ (p0.toInt64) 0 5) (fun σ1 r2 => gd (isB r2) (some (σ1, r2)))
set_option maxHeartbeats 4000000 in
set_option maxRecDepth 100000 in
theorem ctX11_isRow (l : Launch) (g : GG) (σ : St) (p0 : Int32) (σ' : St) (r : Int32) (hE : fX11_isRow σ p0 = some (σ', r)) : MI 25 entM l g yX11_isRow (Cond.code yX11_isRow cX11_isRow 1 (some .boolean) :: gtbl) (rmD 2) [.int p0] σ σ' r := by
  refine mi_z (own := RX11) (lv := [(0, .int p0)]) (by decide) rfl (Nat.le_of_ble_eq_true rfl) rfl (fun p e s m below meth c ls args Q A H0 H locs C hK hA hQ hs hl => ?_)
  have hx := C.1
  have hb := C.2.1
  unfold fX11_isRow at hE
  refine lv_iload_n hx hb dX11_isRow_0 rfl (lv_at hl 0 rfl) ?_
  refine lv_i2l (v := p0.toInt64) hx hb dX11_isRow_1 rfl ?_
  refine lv_lconst (v := 0) hx hb dX11_isRow_2 (by decide) ?_
  refine lv_ldc2 (v := 5) hx hb C.2.2.2.1 (C.2.2.2.2 _ mw_1066) dX11_isRow_3 ?_
  obtain ⟨σ1, r2, hE1, hE⟩ := cl_e hE
  refine x_cis (As := [.long (p0.toInt64), .long 0, .long 5]) (rest := []) C hl.1 hK hs hA ⟨Nat.le_refl 0, Nat.le_refl 0⟩ (ctX11_in l g _ _ _ _ _ _ hE1) (cw_X11_96 C ⟨Nat.le_of_ble_eq_true rfl, Nat.le_of_ble_eq_true rfl⟩) rfl rfl (Nat.le_of_ble_eq_true rfl) dX11_isRow_6 (fun H locs hs => ?_)
  obtain ⟨hc, hE⟩ := gd_e hE
  exact hQ hs hc hE dX11_isRow_9
theorem dX11_isText_0 : decode cX11_isText 0 = .ok (.iload_n 0, 1) := by decide +kernel
theorem dX11_isText_1 : decode cX11_isText 1 = .ok (.i2l, 1) := by decide +kernel
theorem dX11_isText_2 : decode cX11_isText 2 = .ok (.lconst 0, 1) := by decide +kernel
theorem dX11_isText_3 : decode cX11_isText 3 = .ok (.ldc2_w 100, 3) := by decide +kernel
theorem dX11_isText_6 : decode cX11_isText 6 = .ok (.invokestatic 96, 3) := by decide +kernel
theorem dX11_isText_9 : decode cX11_isText 9 = .ok (.ireturn, 1) := by decide +kernel
def fX11_isText (σ : St) (p0 : Int32) : Option (St × Int32) := cl (fX11_in σ (p0.toInt64) 0 3) (fun σ1 r2 => gd (isB r2) (some (σ1, r2)))
set_option maxHeartbeats 4000000 in
set_option maxRecDepth 100000 in
theorem ctX11_isText (l : Launch) (g : GG) (σ : St) (p0 : Int32) (σ' : St) (r : Int32) (hE : fX11_isText σ p0 = some (σ', r)) : MI 25 entM l g yX11_isText (Cond.code yX11_isText cX11_isText 1 (some .boolean) :: gtbl) (rmD 2) [.int p0] σ σ' r := by
  refine mi_z (own := RX11) (lv := [(0, .int p0)]) (by decide) rfl (Nat.le_of_ble_eq_true rfl) rfl (fun p e s m below meth c ls args Q A H0 H locs C hK hA hQ hs hl => ?_)
  have hx := C.1
  have hb := C.2.1
  unfold fX11_isText at hE
  refine lv_iload_n hx hb dX11_isText_0 rfl (lv_at hl 0 rfl) ?_
  refine lv_i2l (v := p0.toInt64) hx hb dX11_isText_1 rfl ?_
  refine lv_lconst (v := 0) hx hb dX11_isText_2 (by decide) ?_
  refine lv_ldc2 (v := 3) hx hb C.2.2.2.1 (C.2.2.2.2 _ mw_1105) dX11_isText_3 ?_
  obtain ⟨σ1, r2, hE1, hE⟩ := cl_e hE
  refine x_cis (As := [.long (p0.toInt64), .long 0, .long 3]) (rest := []) C hl.1 hK hs hA ⟨Nat.le_refl 0, Nat.le_refl 0⟩ (ctX11_in l g _ _ _ _ _ _ hE1) (cw_X11_96 C ⟨Nat.le_of_ble_eq_true rfl, Nat.le_of_ble_eq_true rfl⟩) rfl rfl (Nat.le_of_ble_eq_true rfl) dX11_isText_6 (fun H locs hs => ?_)
  obtain ⟨hc, hE⟩ := gd_e hE
  exact hQ hs hc hE dX11_isText_9
theorem dX11_row_0 : decode cX11_row 0 = .ok (.iload_n 1, 1) := by decide +kernel
theorem dX11_row_1 : decode cX11_row 1 = .ok (.invokestatic 102, 3) := by decide +kernel
theorem dX11_row_4 : decode cX11_row 4 = .ok (.ifCond .eq 9, 3) := by decide +kernel
theorem dX11_row_7 : decode cX11_row 7 = .ok (.iload_n 2, 1) := by decide +kernel
theorem dX11_row_8 : decode cX11_row 8 = .ok (.bipush 40, 2) := by decide +kernel
theorem dX11_row_10 : decode cX11_row 10 = .ok (.if_icmp .le 5, 3) := by decide +kernel
theorem dX11_row_13 : decode cX11_row 13 = .ok (.iconst (-1), 1) := by decide +kernel
theorem dX11_row_14 : decode cX11_row 14 = .ok (.ireturn, 1) := by decide +kernel
theorem dX11_row_15 : decode cX11_row 15 = .ok (.iload_n 2, 1) := by decide +kernel
theorem dX11_row_16 : decode cX11_row 16 = .ok (.ifCond .ge 9, 3) := by decide +kernel
theorem dX11_row_19 : decode cX11_row 19 = .ok (.aload_n 0, 1) := by decide +kernel
theorem dX11_row_20 : decode cX11_row 20 = .ok (.iconst 5, 1) := by decide +kernel
theorem dX11_row_21 : decode cX11_row 21 = .ok (.invokevirtual 106, 3) := by decide +kernel
theorem dX11_row_24 : decode cX11_row 24 = .ok (.ireturn, 1) := by decide +kernel
theorem dX11_row_25 : decode cX11_row 25 = .ok (.aload_n 0, 1) := by decide +kernel
theorem dX11_row_26 : decode cX11_row 26 = .ok (.getfield 7, 3) := by decide +kernel
theorem dX11_row_29 : decode cX11_row 29 = .ok (.iload_n 1, 1) := by decide +kernel
theorem dX11_row_30 : decode cX11_row 30 = .ok (.iload_n 2, 1) := by decide +kernel
theorem dX11_row_31 : decode cX11_row 31 = .ok (.iastore, 1) := by decide +kernel
theorem dX11_row_32 : decode cX11_row 32 = .ok (.iconst 0, 1) := by decide +kernel
theorem dX11_row_33 : decode cX11_row 33 = .ok (.istore_n 3, 1) := by decide +kernel
theorem dX11_row_34 : decode cX11_row 34 = .ok (.iload_n 3, 1) := by decide +kernel
theorem dX11_row_35 : decode cX11_row 35 = .ok (.bipush 40, 2) := by decide +kernel
theorem dX11_row_37 : decode cX11_row 37 = .ok (.if_icmp .ge 21, 3) := by decide +kernel
theorem dX11_row_40 : decode cX11_row 40 = .ok (.aload_n 0, 1) := by decide +kernel
theorem dX11_row_41 : decode cX11_row 41 = .ok (.getfield 13, 3) := by decide +kernel
theorem dX11_row_44 : decode cX11_row 44 = .ok (.bipush 40, 2) := by decide +kernel
theorem dX11_row_46 : decode cX11_row 46 = .ok (.iload_n 1, 1) := by decide +kernel
theorem dX11_row_47 : decode cX11_row 47 = .ok (.imul, 1) := by decide +kernel
theorem dX11_row_48 : decode cX11_row 48 = .ok (.iload_n 3, 1) := by decide +kernel
theorem dX11_row_49 : decode cX11_row 49 = .ok (.iadd, 1) := by decide +kernel
theorem dX11_row_50 : decode cX11_row 50 = .ok (.iconst 0, 1) := by decide +kernel
theorem dX11_row_51 : decode cX11_row 51 = .ok (.iastore, 1) := by decide +kernel
theorem dX11_row_52 : decode cX11_row 52 = .ok (.iinc 3 1, 3) := by decide +kernel
theorem dX11_row_55 : decode cX11_row 55 = .ok (.goto (-21), 3) := by decide +kernel
theorem dX11_row_58 : decode cX11_row 58 = .ok (.iload_n 2, 1) := by decide +kernel
theorem dX11_row_59 : decode cX11_row 59 = .ok (.ireturn, 1) := by decide +kernel
def fX11_row_L34 (p1 : Int32) (p2 : Int32) : Nat → St → Int32 → (St → Int32 → Option (St × Int32)) → Option (St × Int32)
  | 0, _, _, _ => none
  | n + 1, σ4, v5, k => (if 40 ≤ v5 then k σ4 v5 else wr LM σ4 2 ((40 * p1) + v5) 0 (fun σ6 => fX11_row_L34 p1 p2 n σ6 (v5 + 1) k))
def fX11_row (σ : St) (p1 : Int32) (p2 : Int32) : Option (St × Int32) := cl (fX11_isRow σ p1) (fun σ1 r2 => (if r2 = 0 then some (σ1, (-1)) else (if p2 ≤ 40 then (if 0 ≤ p2 then wr LM σ1 1 p1 p2 (fun σ3 => fX11_row_L34 p1 p2 10000 σ3 0 (fun σ7 v8 => some (σ7, p2))) else cl (fX11_found σ1 5) (fun σ9 r10 => some (σ9, r10))) else some (σ1, (-1)))))
set_option maxHeartbeats 4000000 in
set_option maxRecDepth 100000 in
theorem ctX11_row (l : Launch) (g : GG) (σ : St) (p1 : Int32) (p2 : Int32) (σ' : St) (r : Int32) (hE : fX11_row σ p1 p2 = some (σ', r)) : MI 25 entM l g yX11_row (Cond.code yX11_row cX11_row 4 (some .int) :: gtbl) (rmD 3) [.ref (g.2.1 0), .int p1, .int p2] σ σ' r := by
  refine mi_i (own := RX11) (lv := [(0, .ref (g.2.1 0)), (1, .int p1), (2, .int p2)]) (by decide) rfl (Nat.le_of_ble_eq_true rfl) rfl (fun p e s m below meth c ls args Q A H0 H locs C hK hA hQ hs hl => ?_)
  have hx := C.1
  have hb := C.2.1
  unfold fX11_row at hE
  refine lv_iload_n hx hb dX11_row_0 rfl (lv_at hl 1 rfl) ?_
  obtain ⟨σ1, r2, hE1, hE⟩ := cl_e hE
  refine x_cis (As := [.int p1]) (rest := []) C hl.1 hK hs hA ⟨Nat.le_refl 0, Nat.le_refl 0⟩ (ctX11_isRow l g _ _ _ _ hE1) (cw_X11_102 C ⟨Nat.le_of_ble_eq_true rfl, Nat.le_of_ble_eq_true rfl⟩) rfl rfl (Nat.le_of_ble_eq_true rfl) dX11_row_1 (fun H locs hs => ?_)
  refine lv_if_eq (tgt := 13) hx hb dX11_row_4 (by decide) (fun hc => ?_) (fun hc => ?_)
  · have hE := if_t hc hE
    refine lv_iconst (v := (-1)) hx hb dX11_row_13 (by decide) ?_
    exact hQ hs hE dX11_row_14
  · have hE := if_f hc hE
    refine lv_iload_n hx hb dX11_row_7 rfl (lv_at hl 2 rfl) ?_
    refine lv_bipush (v := 40) hx hb dX11_row_8 (by decide) ?_
    refine lv_icmp_le (tgt := 15) hx hb dX11_row_10 (by decide) (fun hc => ?_) (fun hc => ?_)
    · have hE := if_t hc hE
      refine lv_iload_n hx hb dX11_row_15 rfl (lv_at hl 2 rfl) ?_
      refine lv_if_ge (tgt := 25) hx hb dX11_row_16 (by decide) (fun hc => ?_) (fun hc => ?_)
      · have hE := if_t hc hE
        refine lv_aload_n hx hb dX11_row_25 rfl (lv_at hl 0 rfl) ?_
        refine gf_X11_7_0 C hK hs dX11_row_26 ?_
        refine lv_iload_n hx hb dX11_row_29 rfl (lv_at hl 1 rfl) ?_
        refine lv_iload_n hx hb dX11_row_30 rfl (lv_at hl 2 rfl) ?_
        obtain ⟨hi, σ3, eσ3, hE⟩ := wr_w hE
        refine y_ast layM C hK hs hi eσ3 dX11_row_31 (fun H locs hs => ?_)
        refine lv_iconst (v := 0) hx hb dX11_row_32 (by decide) ?_
        refine lv_istore_n (lv' := [(3, .int 0), (0, .ref (g.2.1 0)), (1, .int p1), (2, .int p2)]) hx hb dX11_row_33 rfl hl (by decide) rfl (fun ls hl => ?_)
        have hL34 : ∀ (n : Nat) (σ4 : St) (v5 : Int32) (k : St → Int32 → Option (St × Int32)), fX11_row_L34 p1 p2 n σ4 v5 k = some (σ', r) → (∀ (σ4 : St) (v5 : Int32) (H : Heap) (locs : List Loc) (ls : Array Slot), HW 25 entM g A H0 H locs σ4 → lv_has ls 4 [(0, .ref (g.2.1 0)), (1, .int p1), (2, .int p2), (3, .int v5)] → k σ4 v5 = some (σ', r) → W p l e (rmD 3) s m args below meth c H locs 0 0 Q (F0 m 58 ls [])) → ∀ (H : Heap) (locs : List Loc) (ls : Array Slot), HW 25 entM g A H0 H locs σ4 → lv_has ls 4 [(0, .ref (g.2.1 0)), (1, .int p1), (2, .int p2), (3, .int v5)] → W p l e (rmD 3) s m args below meth c H locs 0 0 Q (F0 m 34 ls []) := by
          intro n
          induction n with
          | zero =>
            intro σ4 v5 k hE
            rw [fX11_row_L34] at hE
            exact no_e hE
          | succ n ih =>
            intro σ4 v5 k hE hk H locs ls hs hl
            rw [fX11_row_L34] at hE
            refine lv_iload_n hx hb dX11_row_34 rfl (lv_at hl 3 rfl) ?_
            refine lv_bipush (v := 40) hx hb dX11_row_35 (by decide) ?_
            refine lv_icmp_ge (tgt := 58) hx hb dX11_row_37 (by decide) (fun hc => ?_) (fun hc => ?_)
            · have hE := if_t hc hE
              exact hk σ4 v5 _ _ _ hs (lv_sub hl [0, 1, 2, 3] rfl) hE
            · have hE := if_f hc hE
              refine lv_aload_n hx hb dX11_row_40 rfl (lv_at hl 0 rfl) ?_
              refine gf_X11_13_0 C hK hs dX11_row_41 ?_
              refine lv_bipush (v := 40) hx hb dX11_row_44 (by decide) ?_
              refine lv_iload_n hx hb dX11_row_46 rfl (lv_at hl 1 rfl) ?_
              refine lv_imul hx hb dX11_row_47 ?_
              refine lv_iload_n hx hb dX11_row_48 rfl (lv_at hl 3 rfl) ?_
              refine lv_iadd hx hb dX11_row_49 ?_
              refine lv_iconst (v := 0) hx hb dX11_row_50 (by decide) ?_
              obtain ⟨hi, σ6, eσ6, hE⟩ := wr_w hE
              refine y_ast layM C hK hs hi eσ6 dX11_row_51 (fun H locs hs => ?_)
              refine lv_iinc (v := v5 + 1) (lv' := [(3, .int (v5 + 1)), (0, .ref (g.2.1 0)), (1, .int p1), (2, .int p2)]) hx hb dX11_row_52 hl (k := 3) rfl rfl (by decide) rfl (fun ls hl => ?_)
              refine lv_goto (tgt := 34) hx hb dX11_row_55 (by decide) ?_
              exact ih _ _ _ hE hk _ _ _ hs (lv_sub hl [1, 2, 3, 0] rfl)
        refine hL34 _ _ _ _ hE (fun σ7 v8 H locs ls hs hl hE => ?_) H locs ls hs (lv_sub hl [1, 2, 3, 0] rfl)
        refine lv_iload_n hx hb dX11_row_58 rfl (lv_at hl 2 rfl) ?_
        exact hQ hs hE dX11_row_59
      · have hE := if_f hc hE
        refine lv_aload_n hx hb dX11_row_19 rfl (lv_at hl 0 rfl) ?_
        refine lv_iconst (v := 5) hx hb dX11_row_20 (by decide) ?_
        obtain ⟨σ9, r10, hE1, hE⟩ := cl_e hE
        refine x_civ (As := [.int 5]) (rest := []) C hl.1 hK hs hA ⟨Nat.le_refl 0, Nat.le_refl 0⟩ (ctX11_found l g _ _ _ _ hE1) (cw_X11_106 C ⟨Nat.le_of_ble_eq_true rfl, Nat.le_of_ble_eq_true rfl⟩) (hs.recv hK 0 (by decide) rfl rfl) rfl rfl (Nat.le_of_ble_eq_true rfl) dX11_row_21 (fun H locs hs => ?_)
        exact hQ hs hE dX11_row_24
    · have hE := if_f hc hE
      refine lv_iconst (v := (-1)) hx hb dX11_row_13 (by decide) ?_
      exact hQ hs hE dX11_row_14
theorem dX11_lay_0 : decode cX11_lay 0 = .ok (.iload_n 1, 1) := by decide +kernel
theorem dX11_lay_1 : decode cX11_lay 1 = .ok (.invokestatic 102, 3) := by decide +kernel
theorem dX11_lay_4 : decode cX11_lay 4 = .ok (.ifCond .ne 5, 3) := by decide +kernel
theorem dX11_lay_7 : decode cX11_lay 7 = .ok (.iconst (-1), 1) := by decide +kernel
theorem dX11_lay_8 : decode cX11_lay 8 = .ok (.ireturn, 1) := by decide +kernel
theorem dX11_lay_9 : decode cX11_lay 9 = .ok (.aload_n 0, 1) := by decide +kernel
theorem dX11_lay_10 : decode cX11_lay 10 = .ok (.getfield 7, 3) := by decide +kernel
theorem dX11_lay_13 : decode cX11_lay 13 = .ok (.iload_n 1, 1) := by decide +kernel
theorem dX11_lay_14 : decode cX11_lay 14 = .ok (.iaload, 1) := by decide +kernel
theorem dX11_lay_15 : decode cX11_lay 15 = .ok (.ifCond .ge 9, 3) := by decide +kernel
theorem dX11_lay_18 : decode cX11_lay 18 = .ok (.aload_n 0, 1) := by decide +kernel
theorem dX11_lay_19 : decode cX11_lay 19 = .ok (.iconst 1, 1) := by decide +kernel
theorem dX11_lay_20 : decode cX11_lay 20 = .ok (.invokevirtual 106, 3) := by decide +kernel
theorem dX11_lay_23 : decode cX11_lay 23 = .ok (.ireturn, 1) := by decide +kernel
theorem dX11_lay_24 : decode cX11_lay 24 = .ok (.iload_n 2, 1) := by decide +kernel
theorem dX11_lay_25 : decode cX11_lay 25 = .ok (.i2l, 1) := by decide +kernel
theorem dX11_lay_26 : decode cX11_lay 26 = .ok (.lconst 0, 1) := by decide +kernel
theorem dX11_lay_27 : decode cX11_lay 27 = .ok (.aload_n 0, 1) := by decide +kernel
theorem dX11_lay_28 : decode cX11_lay 28 = .ok (.getfield 7, 3) := by decide +kernel
theorem dX11_lay_31 : decode cX11_lay 31 = .ok (.iload_n 1, 1) := by decide +kernel
theorem dX11_lay_32 : decode cX11_lay 32 = .ok (.iaload, 1) := by decide +kernel
theorem dX11_lay_33 : decode cX11_lay 33 = .ok (.iconst 1, 1) := by decide +kernel
theorem dX11_lay_34 : decode cX11_lay 34 = .ok (.isub, 1) := by decide +kernel
theorem dX11_lay_35 : decode cX11_lay 35 = .ok (.i2l, 1) := by decide +kernel
theorem dX11_lay_36 : decode cX11_lay 36 = .ok (.invokestatic 96, 3) := by decide +kernel
theorem dX11_lay_39 : decode cX11_lay 39 = .ok (.ifCond .ne 9, 3) := by decide +kernel
theorem dX11_lay_42 : decode cX11_lay 42 = .ok (.aload_n 0, 1) := by decide +kernel
theorem dX11_lay_43 : decode cX11_lay 43 = .ok (.iconst 2, 1) := by decide +kernel
theorem dX11_lay_44 : decode cX11_lay 44 = .ok (.invokevirtual 106, 3) := by decide +kernel
theorem dX11_lay_47 : decode cX11_lay 47 = .ok (.ireturn, 1) := by decide +kernel
theorem dX11_lay_48 : decode cX11_lay 48 = .ok (.aload_n 0, 1) := by decide +kernel
theorem dX11_lay_49 : decode cX11_lay 49 = .ok (.getfield 13, 3) := by decide +kernel
theorem dX11_lay_52 : decode cX11_lay 52 = .ok (.bipush 40, 2) := by decide +kernel
theorem dX11_lay_54 : decode cX11_lay 54 = .ok (.iload_n 1, 1) := by decide +kernel
theorem dX11_lay_55 : decode cX11_lay 55 = .ok (.imul, 1) := by decide +kernel
theorem dX11_lay_56 : decode cX11_lay 56 = .ok (.iload_n 2, 1) := by decide +kernel
theorem dX11_lay_57 : decode cX11_lay 57 = .ok (.iadd, 1) := by decide +kernel
theorem dX11_lay_58 : decode cX11_lay 58 = .ok (.iaload, 1) := by decide +kernel
theorem dX11_lay_59 : decode cX11_lay 59 = .ok (.istore 4, 2) := by decide +kernel
theorem dX11_lay_61 : decode cX11_lay 61 = .ok (.aload_n 0, 1) := by decide +kernel
theorem dX11_lay_62 : decode cX11_lay 62 = .ok (.getfield 13, 3) := by decide +kernel
theorem dX11_lay_65 : decode cX11_lay 65 = .ok (.bipush 40, 2) := by decide +kernel
theorem dX11_lay_67 : decode cX11_lay 67 = .ok (.iload_n 1, 1) := by decide +kernel
theorem dX11_lay_68 : decode cX11_lay 68 = .ok (.imul, 1) := by decide +kernel
theorem dX11_lay_69 : decode cX11_lay 69 = .ok (.iload_n 2, 1) := by decide +kernel
theorem dX11_lay_70 : decode cX11_lay 70 = .ok (.iadd, 1) := by decide +kernel
theorem dX11_lay_71 : decode cX11_lay 71 = .ok (.iload_n 3, 1) := by decide +kernel
theorem dX11_lay_72 : decode cX11_lay 72 = .ok (.iastore, 1) := by decide +kernel
theorem dX11_lay_73 : decode cX11_lay 73 = .ok (.aload_n 0, 1) := by decide +kernel
theorem dX11_lay_74 : decode cX11_lay 74 = .ok (.iload 4, 2) := by decide +kernel
theorem dX11_lay_76 : decode cX11_lay 76 = .ok (.invokevirtual 110, 3) := by decide +kernel
theorem dX11_lay_79 : decode cX11_lay 79 = .ok (.ireturn, 1) := by decide +kernel
def fX11_lay (σ : St) (p1 : Int32) (p2 : Int32) (p3 : Int32) : Option (St × Int32) := cl (fX11_isRow σ p1) (fun σ1 r2 => (if r2 = 0 then some (σ1, (-1)) else rd LM σ1 1 p1 (fun x3 => (if 0 ≤ x3 then rd LM σ1 1 p1 (fun x4 => cl (fX11_in σ1 (p2.toInt64) 0 ((x4 - 1).toInt64)) (fun σ5 r6 => (if r6 = 0 then cl (fX11_found σ5 2) (fun σ11 r12 => some (σ11, r12)) else rd LM σ5 2 ((40 * p1) + p2) (fun x7 => wr LM σ5 2 ((40 * p1) + p2) p3 (fun σ8 => cl (fX11_tell σ8 x7) (fun σ9 r10 => some (σ9, r10))))))) else cl (fX11_found σ1 1) (fun σ13 r14 => some (σ13, r14))))))
set_option maxHeartbeats 4000000 in
set_option maxRecDepth 100000 in
theorem ctX11_lay (l : Launch) (g : GG) (σ : St) (p1 : Int32) (p2 : Int32) (p3 : Int32) (σ' : St) (r : Int32) (hE : fX11_lay σ p1 p2 p3 = some (σ', r)) : MI 25 entM l g yX11_lay (Cond.code yX11_lay cX11_lay 5 (some .int) :: gtbl) (rmD 3) [.ref (g.2.1 0), .int p1, .int p2, .int p3] σ σ' r := by
  refine mi_i (own := RX11) (lv := [(0, .ref (g.2.1 0)), (1, .int p1), (2, .int p2), (3, .int p3)]) (by decide) rfl (Nat.le_of_ble_eq_true rfl) rfl (fun p e s m below meth c ls args Q A H0 H locs C hK hA hQ hs hl => ?_)
  have hx := C.1
  have hb := C.2.1
  unfold fX11_lay at hE
  refine lv_iload_n hx hb dX11_lay_0 rfl (lv_at hl 1 rfl) ?_
  obtain ⟨σ1, r2, hE1, hE⟩ := cl_e hE
  refine x_cis (As := [.int p1]) (rest := []) C hl.1 hK hs hA ⟨Nat.le_refl 0, Nat.le_refl 0⟩ (ctX11_isRow l g _ _ _ _ hE1) (cw_X11_102 C ⟨Nat.le_of_ble_eq_true rfl, Nat.le_of_ble_eq_true rfl⟩) rfl rfl (Nat.le_of_ble_eq_true rfl) dX11_lay_1 (fun H locs hs => ?_)
  refine lv_if_ne (tgt := 9) hx hb dX11_lay_4 (by decide) (fun hc => ?_) (fun hc => ?_)
  · have hE := if_f hc hE
    refine lv_aload_n hx hb dX11_lay_9 rfl (lv_at hl 0 rfl) ?_
    refine gf_X11_7_0 C hK hs dX11_lay_10 ?_
    refine lv_iload_n hx hb dX11_lay_13 rfl (lv_at hl 1 rfl) ?_
    obtain ⟨hi, x3, ex3, hE⟩ := rd_w hE
    refine y_ald layM C hK hs hi ex3 dX11_lay_14 ?_
    refine lv_if_ge (tgt := 24) hx hb dX11_lay_15 (by decide) (fun hc => ?_) (fun hc => ?_)
    · have hE := if_t hc hE
      refine lv_iload_n hx hb dX11_lay_24 rfl (lv_at hl 2 rfl) ?_
      refine lv_i2l (v := p2.toInt64) hx hb dX11_lay_25 rfl ?_
      refine lv_lconst (v := 0) hx hb dX11_lay_26 (by decide) ?_
      refine lv_aload_n hx hb dX11_lay_27 rfl (lv_at hl 0 rfl) ?_
      refine gf_X11_7_0 C hK hs dX11_lay_28 ?_
      refine lv_iload_n hx hb dX11_lay_31 rfl (lv_at hl 1 rfl) ?_
      obtain ⟨hi, x4, ex4, hE⟩ := rd_w hE
      refine y_ald layM C hK hs hi ex4 dX11_lay_32 ?_
      refine lv_iconst (v := 1) hx hb dX11_lay_33 (by decide) ?_
      refine lv_isub hx hb dX11_lay_34 ?_
      refine lv_i2l (v := (x4 - 1).toInt64) hx hb dX11_lay_35 rfl ?_
      obtain ⟨σ5, r6, hE1, hE⟩ := cl_e hE
      refine x_cis (As := [.long (p2.toInt64), .long 0, .long ((x4 - 1).toInt64)]) (rest := []) C hl.1 hK hs hA ⟨Nat.le_refl 0, Nat.le_refl 0⟩ (ctX11_in l g _ _ _ _ _ _ hE1) (cw_X11_96 C ⟨Nat.le_of_ble_eq_true rfl, Nat.le_of_ble_eq_true rfl⟩) rfl rfl (Nat.le_of_ble_eq_true rfl) dX11_lay_36 (fun H locs hs => ?_)
      refine lv_if_ne (tgt := 48) hx hb dX11_lay_39 (by decide) (fun hc => ?_) (fun hc => ?_)
      · have hE := if_f hc hE
        refine lv_aload_n hx hb dX11_lay_48 rfl (lv_at hl 0 rfl) ?_
        refine gf_X11_13_0 C hK hs dX11_lay_49 ?_
        refine lv_bipush (v := 40) hx hb dX11_lay_52 (by decide) ?_
        refine lv_iload_n hx hb dX11_lay_54 rfl (lv_at hl 1 rfl) ?_
        refine lv_imul hx hb dX11_lay_55 ?_
        refine lv_iload_n hx hb dX11_lay_56 rfl (lv_at hl 2 rfl) ?_
        refine lv_iadd hx hb dX11_lay_57 ?_
        obtain ⟨hi, x7, ex7, hE⟩ := rd_w hE
        refine y_ald layM C hK hs hi ex7 dX11_lay_58 ?_
        refine lv_istore (lv' := [(4, .int x7), (0, .ref (g.2.1 0)), (1, .int p1), (2, .int p2), (3, .int p3)]) hx hb dX11_lay_59 hl (by decide) rfl (fun ls hl => ?_)
        refine lv_aload_n hx hb dX11_lay_61 rfl (lv_at hl 1 rfl) ?_
        refine gf_X11_13_0 C hK hs dX11_lay_62 ?_
        refine lv_bipush (v := 40) hx hb dX11_lay_65 (by decide) ?_
        refine lv_iload_n hx hb dX11_lay_67 rfl (lv_at hl 2 rfl) ?_
        refine lv_imul hx hb dX11_lay_68 ?_
        refine lv_iload_n hx hb dX11_lay_69 rfl (lv_at hl 3 rfl) ?_
        refine lv_iadd hx hb dX11_lay_70 ?_
        refine lv_iload_n hx hb dX11_lay_71 rfl (lv_at hl 4 rfl) ?_
        obtain ⟨hi, σ8, eσ8, hE⟩ := wr_w hE
        refine y_ast layM C hK hs hi eσ8 dX11_lay_72 (fun H locs hs => ?_)
        refine lv_aload_n hx hb dX11_lay_73 rfl (lv_at hl 1 rfl) ?_
        refine lv_iload hx hb dX11_lay_74 (lv_at hl 0 rfl) ?_
        obtain ⟨σ9, r10, hE1, hE⟩ := cl_e hE
        refine x_civ (As := [.int x7]) (rest := []) C hl.1 hK hs hA ⟨Nat.le_refl 0, Nat.le_refl 0⟩ (ctX11_tell l g _ _ _ _ hE1) (cw_X11_110 C ⟨Nat.le_of_ble_eq_true rfl, Nat.le_of_ble_eq_true rfl⟩) (hs.recv hK 0 (by decide) rfl rfl) rfl rfl (Nat.le_of_ble_eq_true rfl) dX11_lay_76 (fun H locs hs => ?_)
        exact hQ hs hE dX11_lay_79
      · have hE := if_t hc hE
        refine lv_aload_n hx hb dX11_lay_42 rfl (lv_at hl 0 rfl) ?_
        refine lv_iconst (v := 2) hx hb dX11_lay_43 (by decide) ?_
        obtain ⟨σ11, r12, hE1, hE⟩ := cl_e hE
        refine x_civ (As := [.int 2]) (rest := []) C hl.1 hK hs hA ⟨Nat.le_refl 0, Nat.le_refl 0⟩ (ctX11_found l g _ _ _ _ hE1) (cw_X11_106 C ⟨Nat.le_of_ble_eq_true rfl, Nat.le_of_ble_eq_true rfl⟩) (hs.recv hK 0 (by decide) rfl rfl) rfl rfl (Nat.le_of_ble_eq_true rfl) dX11_lay_44 (fun H locs hs => ?_)
        exact hQ hs hE dX11_lay_47
    · have hE := if_f hc hE
      refine lv_aload_n hx hb dX11_lay_18 rfl (lv_at hl 0 rfl) ?_
      refine lv_iconst (v := 1) hx hb dX11_lay_19 (by decide) ?_
      obtain ⟨σ13, r14, hE1, hE⟩ := cl_e hE
      refine x_civ (As := [.int 1]) (rest := []) C hl.1 hK hs hA ⟨Nat.le_refl 0, Nat.le_refl 0⟩ (ctX11_found l g _ _ _ _ hE1) (cw_X11_106 C ⟨Nat.le_of_ble_eq_true rfl, Nat.le_of_ble_eq_true rfl⟩) (hs.recv hK 0 (by decide) rfl rfl) rfl rfl (Nat.le_of_ble_eq_true rfl) dX11_lay_20 (fun H locs hs => ?_)
      exact hQ hs hE dX11_lay_23
  · have hE := if_t hc hE
    refine lv_iconst (v := (-1)) hx hb dX11_lay_7 (by decide) ?_
    exact hQ hs hE dX11_lay_8
theorem dX11_at_0 : decode cX11_at 0 = .ok (.iload_n 1, 1) := by decide +kernel
theorem dX11_at_1 : decode cX11_at 1 = .ok (.invokestatic 102, 3) := by decide +kernel
theorem dX11_at_4 : decode cX11_at 4 = .ok (.ifCond .ne 5, 3) := by decide +kernel
theorem dX11_at_7 : decode cX11_at 7 = .ok (.iconst (-1), 1) := by decide +kernel
theorem dX11_at_8 : decode cX11_at 8 = .ok (.ireturn, 1) := by decide +kernel
theorem dX11_at_9 : decode cX11_at 9 = .ok (.aload_n 0, 1) := by decide +kernel
theorem dX11_at_10 : decode cX11_at 10 = .ok (.getfield 7, 3) := by decide +kernel
theorem dX11_at_13 : decode cX11_at 13 = .ok (.iload_n 1, 1) := by decide +kernel
theorem dX11_at_14 : decode cX11_at 14 = .ok (.iaload, 1) := by decide +kernel
theorem dX11_at_15 : decode cX11_at 15 = .ok (.ifCond .ge 9, 3) := by decide +kernel
theorem dX11_at_18 : decode cX11_at 18 = .ok (.aload_n 0, 1) := by decide +kernel
theorem dX11_at_19 : decode cX11_at 19 = .ok (.iconst 1, 1) := by decide +kernel
theorem dX11_at_20 : decode cX11_at 20 = .ok (.invokevirtual 106, 3) := by decide +kernel
theorem dX11_at_23 : decode cX11_at 23 = .ok (.ireturn, 1) := by decide +kernel
theorem dX11_at_24 : decode cX11_at 24 = .ok (.iload_n 2, 1) := by decide +kernel
theorem dX11_at_25 : decode cX11_at 25 = .ok (.i2l, 1) := by decide +kernel
theorem dX11_at_26 : decode cX11_at 26 = .ok (.lconst 0, 1) := by decide +kernel
theorem dX11_at_27 : decode cX11_at 27 = .ok (.aload_n 0, 1) := by decide +kernel
theorem dX11_at_28 : decode cX11_at 28 = .ok (.getfield 7, 3) := by decide +kernel
theorem dX11_at_31 : decode cX11_at 31 = .ok (.iload_n 1, 1) := by decide +kernel
theorem dX11_at_32 : decode cX11_at 32 = .ok (.iaload, 1) := by decide +kernel
theorem dX11_at_33 : decode cX11_at 33 = .ok (.iconst 1, 1) := by decide +kernel
theorem dX11_at_34 : decode cX11_at 34 = .ok (.isub, 1) := by decide +kernel
theorem dX11_at_35 : decode cX11_at 35 = .ok (.i2l, 1) := by decide +kernel
theorem dX11_at_36 : decode cX11_at 36 = .ok (.invokestatic 96, 3) := by decide +kernel
theorem dX11_at_39 : decode cX11_at 39 = .ok (.ifCond .eq 21, 3) := by decide +kernel
theorem dX11_at_42 : decode cX11_at 42 = .ok (.aload_n 0, 1) := by decide +kernel
theorem dX11_at_43 : decode cX11_at 43 = .ok (.aload_n 0, 1) := by decide +kernel
theorem dX11_at_44 : decode cX11_at 44 = .ok (.getfield 13, 3) := by decide +kernel
theorem dX11_at_47 : decode cX11_at 47 = .ok (.bipush 40, 2) := by decide +kernel
theorem dX11_at_49 : decode cX11_at 49 = .ok (.iload_n 1, 1) := by decide +kernel
theorem dX11_at_50 : decode cX11_at 50 = .ok (.imul, 1) := by decide +kernel
theorem dX11_at_51 : decode cX11_at 51 = .ok (.iload_n 2, 1) := by decide +kernel
theorem dX11_at_52 : decode cX11_at 52 = .ok (.iadd, 1) := by decide +kernel
theorem dX11_at_53 : decode cX11_at 53 = .ok (.iaload, 1) := by decide +kernel
theorem dX11_at_54 : decode cX11_at 54 = .ok (.invokevirtual 110, 3) := by decide +kernel
theorem dX11_at_57 : decode cX11_at 57 = .ok (.goto 8, 3) := by decide +kernel
theorem dX11_at_60 : decode cX11_at 60 = .ok (.aload_n 0, 1) := by decide +kernel
theorem dX11_at_61 : decode cX11_at 61 = .ok (.iconst 2, 1) := by decide +kernel
theorem dX11_at_62 : decode cX11_at 62 = .ok (.invokevirtual 106, 3) := by decide +kernel
theorem dX11_at_65 : decode cX11_at 65 = .ok (.ireturn, 1) := by decide +kernel
def fX11_at (σ : St) (p1 : Int32) (p2 : Int32) : Option (St × Int32) := cl (fX11_isRow σ p1) (fun σ1 r2 => (if r2 = 0 then some (σ1, (-1)) else rd LM σ1 1 p1 (fun x3 => (if 0 ≤ x3 then rd LM σ1 1 p1 (fun x4 => cl (fX11_in σ1 (p2.toInt64) 0 ((x4 - 1).toInt64)) (fun σ5 r6 => (if r6 = 0 then cl (fX11_found σ5 2) (fun σ7 r8 => some (σ7, r8)) else rd LM σ5 2 ((40 * p1) + p2) (fun x9 => cl (fX11_tell σ5 x9) (fun σ10 r11 => some (σ10, r11)))))) else cl (fX11_found σ1 1) (fun σ12 r13 => some (σ12, r13))))))
set_option maxHeartbeats 4000000 in
set_option maxRecDepth 100000 in
theorem ctX11_at (l : Launch) (g : GG) (σ : St) (p1 : Int32) (p2 : Int32) (σ' : St) (r : Int32) (hE : fX11_at σ p1 p2 = some (σ', r)) : MI 25 entM l g yX11_at (Cond.code yX11_at cX11_at 3 (some .int) :: gtbl) (rmD 3) [.ref (g.2.1 0), .int p1, .int p2] σ σ' r := by
  refine mi_i (own := RX11) (lv := [(0, .ref (g.2.1 0)), (1, .int p1), (2, .int p2)]) (by decide) rfl (Nat.le_of_ble_eq_true rfl) rfl (fun p e s m below meth c ls args Q A H0 H locs C hK hA hQ hs hl => ?_)
  have hx := C.1
  have hb := C.2.1
  unfold fX11_at at hE
  refine lv_iload_n hx hb dX11_at_0 rfl (lv_at hl 1 rfl) ?_
  obtain ⟨σ1, r2, hE1, hE⟩ := cl_e hE
  refine x_cis (As := [.int p1]) (rest := []) C hl.1 hK hs hA ⟨Nat.le_refl 0, Nat.le_refl 0⟩ (ctX11_isRow l g _ _ _ _ hE1) (cw_X11_102 C ⟨Nat.le_of_ble_eq_true rfl, Nat.le_of_ble_eq_true rfl⟩) rfl rfl (Nat.le_of_ble_eq_true rfl) dX11_at_1 (fun H locs hs => ?_)
  refine lv_if_ne (tgt := 9) hx hb dX11_at_4 (by decide) (fun hc => ?_) (fun hc => ?_)
  · have hE := if_f hc hE
    refine lv_aload_n hx hb dX11_at_9 rfl (lv_at hl 0 rfl) ?_
    refine gf_X11_7_0 C hK hs dX11_at_10 ?_
    refine lv_iload_n hx hb dX11_at_13 rfl (lv_at hl 1 rfl) ?_
    obtain ⟨hi, x3, ex3, hE⟩ := rd_w hE
    refine y_ald layM C hK hs hi ex3 dX11_at_14 ?_
    refine lv_if_ge (tgt := 24) hx hb dX11_at_15 (by decide) (fun hc => ?_) (fun hc => ?_)
    · have hE := if_t hc hE
      refine lv_iload_n hx hb dX11_at_24 rfl (lv_at hl 2 rfl) ?_
      refine lv_i2l (v := p2.toInt64) hx hb dX11_at_25 rfl ?_
      refine lv_lconst (v := 0) hx hb dX11_at_26 (by decide) ?_
      refine lv_aload_n hx hb dX11_at_27 rfl (lv_at hl 0 rfl) ?_
      refine gf_X11_7_0 C hK hs dX11_at_28 ?_
      refine lv_iload_n hx hb dX11_at_31 rfl (lv_at hl 1 rfl) ?_
      obtain ⟨hi, x4, ex4, hE⟩ := rd_w hE
      refine y_ald layM C hK hs hi ex4 dX11_at_32 ?_
      refine lv_iconst (v := 1) hx hb dX11_at_33 (by decide) ?_
      refine lv_isub hx hb dX11_at_34 ?_
      refine lv_i2l (v := (x4 - 1).toInt64) hx hb dX11_at_35 rfl ?_
      obtain ⟨σ5, r6, hE1, hE⟩ := cl_e hE
      refine x_cis (As := [.long (p2.toInt64), .long 0, .long ((x4 - 1).toInt64)]) (rest := []) C hl.1 hK hs hA ⟨Nat.le_refl 0, Nat.le_refl 0⟩ (ctX11_in l g _ _ _ _ _ _ hE1) (cw_X11_96 C ⟨Nat.le_of_ble_eq_true rfl, Nat.le_of_ble_eq_true rfl⟩) rfl rfl (Nat.le_of_ble_eq_true rfl) dX11_at_36 (fun H locs hs => ?_)
      refine lv_if_eq (tgt := 60) hx hb dX11_at_39 (by decide) (fun hc => ?_) (fun hc => ?_)
      · have hE := if_t hc hE
        refine lv_aload_n hx hb dX11_at_60 rfl (lv_at hl 0 rfl) ?_
        refine lv_iconst (v := 2) hx hb dX11_at_61 (by decide) ?_
        obtain ⟨σ7, r8, hE1, hE⟩ := cl_e hE
        refine x_civ (As := [.int 2]) (rest := []) C hl.1 hK hs hA ⟨Nat.le_refl 0, Nat.le_refl 0⟩ (ctX11_found l g _ _ _ _ hE1) (cw_X11_106 C ⟨Nat.le_of_ble_eq_true rfl, Nat.le_of_ble_eq_true rfl⟩) (hs.recv hK 0 (by decide) rfl rfl) rfl rfl (Nat.le_of_ble_eq_true rfl) dX11_at_62 (fun H locs hs => ?_)
        exact hQ hs hE dX11_at_65
      · have hE := if_f hc hE
        refine lv_aload_n hx hb dX11_at_42 rfl (lv_at hl 0 rfl) ?_
        refine lv_aload_n hx hb dX11_at_43 rfl (lv_at hl 0 rfl) ?_
        refine gf_X11_13_0 C hK hs dX11_at_44 ?_
        refine lv_bipush (v := 40) hx hb dX11_at_47 (by decide) ?_
        refine lv_iload_n hx hb dX11_at_49 rfl (lv_at hl 1 rfl) ?_
        refine lv_imul hx hb dX11_at_50 ?_
        refine lv_iload_n hx hb dX11_at_51 rfl (lv_at hl 2 rfl) ?_
        refine lv_iadd hx hb dX11_at_52 ?_
        obtain ⟨hi, x9, ex9, hE⟩ := rd_w hE
        refine y_ald layM C hK hs hi ex9 dX11_at_53 ?_
        obtain ⟨σ10, r11, hE1, hE⟩ := cl_e hE
        refine x_civ (As := [.int x9]) (rest := []) C hl.1 hK hs hA ⟨Nat.le_refl 0, Nat.le_refl 0⟩ (ctX11_tell l g _ _ _ _ hE1) (cw_X11_110 C ⟨Nat.le_of_ble_eq_true rfl, Nat.le_of_ble_eq_true rfl⟩) (hs.recv hK 0 (by decide) rfl rfl) rfl rfl (Nat.le_of_ble_eq_true rfl) dX11_at_54 (fun H locs hs => ?_)
        refine lv_goto (tgt := 65) hx hb dX11_at_57 (by decide) ?_
        exact hQ hs hE dX11_at_65
    · have hE := if_f hc hE
      refine lv_aload_n hx hb dX11_at_18 rfl (lv_at hl 0 rfl) ?_
      refine lv_iconst (v := 1) hx hb dX11_at_19 (by decide) ?_
      obtain ⟨σ12, r13, hE1, hE⟩ := cl_e hE
      refine x_civ (As := [.int 1]) (rest := []) C hl.1 hK hs hA ⟨Nat.le_refl 0, Nat.le_refl 0⟩ (ctX11_found l g _ _ _ _ hE1) (cw_X11_106 C ⟨Nat.le_of_ble_eq_true rfl, Nat.le_of_ble_eq_true rfl⟩) (hs.recv hK 0 (by decide) rfl rfl) rfl rfl (Nat.le_of_ble_eq_true rfl) dX11_at_20 (fun H locs hs => ?_)
      exact hQ hs hE dX11_at_23
  · have hE := if_t hc hE
    refine lv_iconst (v := (-1)) hx hb dX11_at_7 (by decide) ?_
    exact hQ hs hE dX11_at_8
theorem dX11_tear_0 : decode cX11_tear 0 = .ok (.iload_n 1, 1) := by decide +kernel
theorem dX11_tear_1 : decode cX11_tear 1 = .ok (.invokestatic 102, 3) := by decide +kernel
theorem dX11_tear_4 : decode cX11_tear 4 = .ok (.ifCond .ne 5, 3) := by decide +kernel
theorem dX11_tear_7 : decode cX11_tear 7 = .ok (.iconst (-1), 1) := by decide +kernel
theorem dX11_tear_8 : decode cX11_tear 8 = .ok (.ireturn, 1) := by decide +kernel
theorem dX11_tear_9 : decode cX11_tear 9 = .ok (.aload_n 0, 1) := by decide +kernel
theorem dX11_tear_10 : decode cX11_tear 10 = .ok (.getfield 7, 3) := by decide +kernel
theorem dX11_tear_13 : decode cX11_tear 13 = .ok (.iload_n 1, 1) := by decide +kernel
theorem dX11_tear_14 : decode cX11_tear 14 = .ok (.iaload, 1) := by decide +kernel
theorem dX11_tear_15 : decode cX11_tear 15 = .ok (.ifCond .ge 9, 3) := by decide +kernel
theorem dX11_tear_18 : decode cX11_tear 18 = .ok (.aload_n 0, 1) := by decide +kernel
theorem dX11_tear_19 : decode cX11_tear 19 = .ok (.iconst 1, 1) := by decide +kernel
theorem dX11_tear_20 : decode cX11_tear 20 = .ok (.invokevirtual 106, 3) := by decide +kernel
theorem dX11_tear_23 : decode cX11_tear 23 = .ok (.ireturn, 1) := by decide +kernel
theorem dX11_tear_24 : decode cX11_tear 24 = .ok (.aload_n 0, 1) := by decide +kernel
theorem dX11_tear_25 : decode cX11_tear 25 = .ok (.getfield 7, 3) := by decide +kernel
theorem dX11_tear_28 : decode cX11_tear 28 = .ok (.iload_n 1, 1) := by decide +kernel
theorem dX11_tear_29 : decode cX11_tear 29 = .ok (.iconst (-1), 1) := by decide +kernel
theorem dX11_tear_30 : decode cX11_tear 30 = .ok (.iastore, 1) := by decide +kernel
theorem dX11_tear_31 : decode cX11_tear 31 = .ok (.iconst 1, 1) := by decide +kernel
theorem dX11_tear_32 : decode cX11_tear 32 = .ok (.ireturn, 1) := by decide +kernel
def fX11_tear (σ : St) (p1 : Int32) : Option (St × Int32) := cl (fX11_isRow σ p1) (fun σ1 r2 => (if r2 = 0 then some (σ1, (-1)) else rd LM σ1 1 p1 (fun x3 => (if 0 ≤ x3 then wr LM σ1 1 p1 (-1) (fun σ4 => some (σ4, 1)) else cl (fX11_found σ1 1) (fun σ5 r6 => some (σ5, r6))))))
set_option maxHeartbeats 4000000 in
set_option maxRecDepth 100000 in
theorem ctX11_tear (l : Launch) (g : GG) (σ : St) (p1 : Int32) (σ' : St) (r : Int32) (hE : fX11_tear σ p1 = some (σ', r)) : MI 25 entM l g yX11_tear (Cond.code yX11_tear cX11_tear 2 (some .int) :: gtbl) (rmD 3) [.ref (g.2.1 0), .int p1] σ σ' r := by
  refine mi_i (own := RX11) (lv := [(0, .ref (g.2.1 0)), (1, .int p1)]) (by decide) rfl (Nat.le_of_ble_eq_true rfl) rfl (fun p e s m below meth c ls args Q A H0 H locs C hK hA hQ hs hl => ?_)
  have hx := C.1
  have hb := C.2.1
  unfold fX11_tear at hE
  refine lv_iload_n hx hb dX11_tear_0 rfl (lv_at hl 1 rfl) ?_
  obtain ⟨σ1, r2, hE1, hE⟩ := cl_e hE
  refine x_cis (As := [.int p1]) (rest := []) C hl.1 hK hs hA ⟨Nat.le_refl 0, Nat.le_refl 0⟩ (ctX11_isRow l g _ _ _ _ hE1) (cw_X11_102 C ⟨Nat.le_of_ble_eq_true rfl, Nat.le_of_ble_eq_true rfl⟩) rfl rfl (Nat.le_of_ble_eq_true rfl) dX11_tear_1 (fun H locs hs => ?_)
  refine lv_if_ne (tgt := 9) hx hb dX11_tear_4 (by decide) (fun hc => ?_) (fun hc => ?_)
  · have hE := if_f hc hE
    refine lv_aload_n hx hb dX11_tear_9 rfl (lv_at hl 0 rfl) ?_
    refine gf_X11_7_0 C hK hs dX11_tear_10 ?_
    refine lv_iload_n hx hb dX11_tear_13 rfl (lv_at hl 1 rfl) ?_
    obtain ⟨hi, x3, ex3, hE⟩ := rd_w hE
    refine y_ald layM C hK hs hi ex3 dX11_tear_14 ?_
    refine lv_if_ge (tgt := 24) hx hb dX11_tear_15 (by decide) (fun hc => ?_) (fun hc => ?_)
    · have hE := if_t hc hE
      refine lv_aload_n hx hb dX11_tear_24 rfl (lv_at hl 0 rfl) ?_
      refine gf_X11_7_0 C hK hs dX11_tear_25 ?_
      refine lv_iload_n hx hb dX11_tear_28 rfl (lv_at hl 1 rfl) ?_
      refine lv_iconst (v := (-1)) hx hb dX11_tear_29 (by decide) ?_
      obtain ⟨hi, σ4, eσ4, hE⟩ := wr_w hE
      refine y_ast layM C hK hs hi eσ4 dX11_tear_30 (fun H locs hs => ?_)
      refine lv_iconst (v := 1) hx hb dX11_tear_31 (by decide) ?_
      exact hQ hs hE dX11_tear_32
    · have hE := if_f hc hE
      refine lv_aload_n hx hb dX11_tear_18 rfl (lv_at hl 0 rfl) ?_
      refine lv_iconst (v := 1) hx hb dX11_tear_19 (by decide) ?_
      obtain ⟨σ5, r6, hE1, hE⟩ := cl_e hE
      refine x_civ (As := [.int 1]) (rest := []) C hl.1 hK hs hA ⟨Nat.le_refl 0, Nat.le_refl 0⟩ (ctX11_found l g _ _ _ _ hE1) (cw_X11_106 C ⟨Nat.le_of_ble_eq_true rfl, Nat.le_of_ble_eq_true rfl⟩) (hs.recv hK 0 (by decide) rfl rfl) rfl rfl (Nat.le_of_ble_eq_true rfl) dX11_tear_20 (fun H locs hs => ?_)
      exact hQ hs hE dX11_tear_23
  · have hE := if_t hc hE
    refine lv_iconst (v := (-1)) hx hb dX11_tear_7 (by decide) ?_
    exact hQ hs hE dX11_tear_8
theorem dX11_copy_0 : decode cX11_copy 0 = .ok (.iload_n 1, 1) := by decide +kernel
theorem dX11_copy_1 : decode cX11_copy 1 = .ok (.invokestatic 102, 3) := by decide +kernel
theorem dX11_copy_4 : decode cX11_copy 4 = .ok (.ifCond .eq 10, 3) := by decide +kernel
theorem dX11_copy_7 : decode cX11_copy 7 = .ok (.iload_n 3, 1) := by decide +kernel
theorem dX11_copy_8 : decode cX11_copy 8 = .ok (.invokestatic 102, 3) := by decide +kernel
theorem dX11_copy_11 : decode cX11_copy 11 = .ok (.ifCond .ne 5, 3) := by decide +kernel
theorem dX11_copy_14 : decode cX11_copy 14 = .ok (.iconst (-1), 1) := by decide +kernel
theorem dX11_copy_15 : decode cX11_copy 15 = .ok (.ireturn, 1) := by decide +kernel
theorem dX11_copy_16 : decode cX11_copy 16 = .ok (.iload 5, 2) := by decide +kernel
theorem dX11_copy_18 : decode cX11_copy 18 = .ok (.ifCond .ge 9, 3) := by decide +kernel
theorem dX11_copy_21 : decode cX11_copy 21 = .ok (.aload_n 0, 1) := by decide +kernel
theorem dX11_copy_22 : decode cX11_copy 22 = .ok (.iconst 5, 1) := by decide +kernel
theorem dX11_copy_23 : decode cX11_copy 23 = .ok (.invokevirtual 106, 3) := by decide +kernel
theorem dX11_copy_26 : decode cX11_copy 26 = .ok (.ireturn, 1) := by decide +kernel
theorem dX11_copy_27 : decode cX11_copy 27 = .ok (.aload_n 0, 1) := by decide +kernel
theorem dX11_copy_28 : decode cX11_copy 28 = .ok (.getfield 7, 3) := by decide +kernel
theorem dX11_copy_31 : decode cX11_copy 31 = .ok (.iload_n 1, 1) := by decide +kernel
theorem dX11_copy_32 : decode cX11_copy 32 = .ok (.iaload, 1) := by decide +kernel
theorem dX11_copy_33 : decode cX11_copy 33 = .ok (.ifCond .lt 12, 3) := by decide +kernel
theorem dX11_copy_36 : decode cX11_copy 36 = .ok (.aload_n 0, 1) := by decide +kernel
theorem dX11_copy_37 : decode cX11_copy 37 = .ok (.getfield 7, 3) := by decide +kernel
theorem dX11_copy_40 : decode cX11_copy 40 = .ok (.iload_n 3, 1) := by decide +kernel
theorem dX11_copy_41 : decode cX11_copy 41 = .ok (.iaload, 1) := by decide +kernel
theorem dX11_copy_42 : decode cX11_copy 42 = .ok (.ifCond .ge 9, 3) := by decide +kernel
theorem dX11_copy_45 : decode cX11_copy 45 = .ok (.aload_n 0, 1) := by decide +kernel
theorem dX11_copy_46 : decode cX11_copy 46 = .ok (.iconst 1, 1) := by decide +kernel
theorem dX11_copy_47 : decode cX11_copy 47 = .ok (.invokevirtual 106, 3) := by decide +kernel
theorem dX11_copy_50 : decode cX11_copy 50 = .ok (.ireturn, 1) := by decide +kernel
theorem dX11_copy_51 : decode cX11_copy 51 = .ok (.iload_n 2, 1) := by decide +kernel
theorem dX11_copy_52 : decode cX11_copy 52 = .ok (.ifCond .lt 43, 3) := by decide +kernel
theorem dX11_copy_55 : decode cX11_copy 55 = .ok (.iload 4, 2) := by decide +kernel
theorem dX11_copy_57 : decode cX11_copy 57 = .ok (.ifCond .lt 38, 3) := by decide +kernel
theorem dX11_copy_60 : decode cX11_copy 60 = .ok (.iload_n 2, 1) := by decide +kernel
theorem dX11_copy_61 : decode cX11_copy 61 = .ok (.i2l, 1) := by decide +kernel
theorem dX11_copy_62 : decode cX11_copy 62 = .ok (.iload 5, 2) := by decide +kernel
theorem dX11_copy_64 : decode cX11_copy 64 = .ok (.i2l, 1) := by decide +kernel
theorem dX11_copy_65 : decode cX11_copy 65 = .ok (.ladd, 1) := by decide +kernel
theorem dX11_copy_66 : decode cX11_copy 66 = .ok (.aload_n 0, 1) := by decide +kernel
theorem dX11_copy_67 : decode cX11_copy 67 = .ok (.getfield 7, 3) := by decide +kernel
theorem dX11_copy_70 : decode cX11_copy 70 = .ok (.iload_n 1, 1) := by decide +kernel
theorem dX11_copy_71 : decode cX11_copy 71 = .ok (.iaload, 1) := by decide +kernel
theorem dX11_copy_72 : decode cX11_copy 72 = .ok (.i2l, 1) := by decide +kernel
theorem dX11_copy_73 : decode cX11_copy 73 = .ok (.lcmp, 1) := by decide +kernel
theorem dX11_copy_74 : decode cX11_copy 74 = .ok (.ifCond .gt 21, 3) := by decide +kernel
theorem dX11_copy_77 : decode cX11_copy 77 = .ok (.iload 4, 2) := by decide +kernel
theorem dX11_copy_79 : decode cX11_copy 79 = .ok (.i2l, 1) := by decide +kernel
theorem dX11_copy_80 : decode cX11_copy 80 = .ok (.iload 5, 2) := by decide +kernel
theorem dX11_copy_82 : decode cX11_copy 82 = .ok (.i2l, 1) := by decide +kernel
theorem dX11_copy_83 : decode cX11_copy 83 = .ok (.ladd, 1) := by decide +kernel
theorem dX11_copy_84 : decode cX11_copy 84 = .ok (.aload_n 0, 1) := by decide +kernel
theorem dX11_copy_85 : decode cX11_copy 85 = .ok (.getfield 7, 3) := by decide +kernel
theorem dX11_copy_88 : decode cX11_copy 88 = .ok (.iload_n 3, 1) := by decide +kernel
theorem dX11_copy_89 : decode cX11_copy 89 = .ok (.iaload, 1) := by decide +kernel
theorem dX11_copy_90 : decode cX11_copy 90 = .ok (.i2l, 1) := by decide +kernel
theorem dX11_copy_91 : decode cX11_copy 91 = .ok (.lcmp, 1) := by decide +kernel
theorem dX11_copy_92 : decode cX11_copy 92 = .ok (.ifCond .le 9, 3) := by decide +kernel
theorem dX11_copy_95 : decode cX11_copy 95 = .ok (.aload_n 0, 1) := by decide +kernel
theorem dX11_copy_96 : decode cX11_copy 96 = .ok (.iconst 2, 1) := by decide +kernel
theorem dX11_copy_97 : decode cX11_copy 97 = .ok (.invokevirtual 106, 3) := by decide +kernel
theorem dX11_copy_100 : decode cX11_copy 100 = .ok (.ireturn, 1) := by decide +kernel
theorem dX11_copy_101 : decode cX11_copy 101 = .ok (.iconst 0, 1) := by decide +kernel
theorem dX11_copy_102 : decode cX11_copy 102 = .ok (.istore 6, 2) := by decide +kernel
theorem dX11_copy_104 : decode cX11_copy 104 = .ok (.iload 6, 2) := by decide +kernel
theorem dX11_copy_106 : decode cX11_copy 106 = .ok (.iload 5, 2) := by decide +kernel
theorem dX11_copy_108 : decode cX11_copy 108 = .ok (.if_icmp .ge 58, 3) := by decide +kernel
theorem dX11_copy_111 : decode cX11_copy 111 = .ok (.iload 4, 2) := by decide +kernel
theorem dX11_copy_113 : decode cX11_copy 113 = .ok (.iload_n 2, 1) := by decide +kernel
theorem dX11_copy_114 : decode cX11_copy 114 = .ok (.if_icmp .le 13, 3) := by decide +kernel
theorem dX11_copy_117 : decode cX11_copy 117 = .ok (.iload 5, 2) := by decide +kernel
theorem dX11_copy_119 : decode cX11_copy 119 = .ok (.iconst 1, 1) := by decide +kernel
theorem dX11_copy_120 : decode cX11_copy 120 = .ok (.isub, 1) := by decide +kernel
theorem dX11_copy_121 : decode cX11_copy 121 = .ok (.iload 6, 2) := by decide +kernel
theorem dX11_copy_123 : decode cX11_copy 123 = .ok (.isub, 1) := by decide +kernel
theorem dX11_copy_124 : decode cX11_copy 124 = .ok (.goto 5, 3) := by decide +kernel
theorem dX11_copy_127 : decode cX11_copy 127 = .ok (.iload 6, 2) := by decide +kernel
theorem dX11_copy_129 : decode cX11_copy 129 = .ok (.istore 7, 2) := by decide +kernel
theorem dX11_copy_131 : decode cX11_copy 131 = .ok (.aload_n 0, 1) := by decide +kernel
theorem dX11_copy_132 : decode cX11_copy 132 = .ok (.getfield 13, 3) := by decide +kernel
theorem dX11_copy_135 : decode cX11_copy 135 = .ok (.bipush 40, 2) := by decide +kernel
theorem dX11_copy_137 : decode cX11_copy 137 = .ok (.iload_n 3, 1) := by decide +kernel
theorem dX11_copy_138 : decode cX11_copy 138 = .ok (.imul, 1) := by decide +kernel
theorem dX11_copy_139 : decode cX11_copy 139 = .ok (.iload 4, 2) := by decide +kernel
theorem dX11_copy_141 : decode cX11_copy 141 = .ok (.iadd, 1) := by decide +kernel
theorem dX11_copy_142 : decode cX11_copy 142 = .ok (.iload 7, 2) := by decide +kernel
theorem dX11_copy_144 : decode cX11_copy 144 = .ok (.iadd, 1) := by decide +kernel
theorem dX11_copy_145 : decode cX11_copy 145 = .ok (.aload_n 0, 1) := by decide +kernel
theorem dX11_copy_146 : decode cX11_copy 146 = .ok (.getfield 13, 3) := by decide +kernel
theorem dX11_copy_149 : decode cX11_copy 149 = .ok (.bipush 40, 2) := by decide +kernel
theorem dX11_copy_151 : decode cX11_copy 151 = .ok (.iload_n 1, 1) := by decide +kernel
theorem dX11_copy_152 : decode cX11_copy 152 = .ok (.imul, 1) := by decide +kernel
theorem dX11_copy_153 : decode cX11_copy 153 = .ok (.iload_n 2, 1) := by decide +kernel
theorem dX11_copy_154 : decode cX11_copy 154 = .ok (.iadd, 1) := by decide +kernel
theorem dX11_copy_155 : decode cX11_copy 155 = .ok (.iload 7, 2) := by decide +kernel
theorem dX11_copy_157 : decode cX11_copy 157 = .ok (.iadd, 1) := by decide +kernel
theorem dX11_copy_158 : decode cX11_copy 158 = .ok (.iaload, 1) := by decide +kernel
theorem dX11_copy_159 : decode cX11_copy 159 = .ok (.iastore, 1) := by decide +kernel
theorem dX11_copy_160 : decode cX11_copy 160 = .ok (.iinc 6 1, 3) := by decide +kernel
theorem dX11_copy_163 : decode cX11_copy 163 = .ok (.goto (-59), 3) := by decide +kernel
theorem dX11_copy_166 : decode cX11_copy 166 = .ok (.iconst 1, 1) := by decide +kernel
theorem dX11_copy_167 : decode cX11_copy 167 = .ok (.ireturn, 1) := by decide +kernel
def fX11_copy_L104 (p1 : Int32) (p2 : Int32) (p3 : Int32) (p4 : Int32) (p5 : Int32) : Nat → St → Int32 → (St → Int32 → Option (St × Int32)) → Option (St × Int32)
  | 0, _, _, _ => none
  | n + 1, σ15, v16, k => (if p5 ≤ v16 then k σ15 v16 else pv (if p4 ≤ p2 then v16 else ((p5 - 1) - v16)) (fun (y18 : Int32) => rd LM σ15 2 (((40 * p1) + p2) + y18) (fun x19 => wr LM σ15 2 (((40 * p3) + p4) + y18) x19 (fun σ20 => fX11_copy_L104 p1 p2 p3 p4 p5 n σ20 (v16 + 1) k))))
def fX11_copy (σ : St) (p1 : Int32) (p2 : Int32) (p3 : Int32) (p4 : Int32) (p5 : Int32) : Option (St × Int32) := cl (fX11_isRow σ p1) (fun σ1 r2 => (if r2 = 0 then some (σ1, (-1)) else cl (fX11_isRow σ1 p3) (fun σ3 r4 => (if r4 = 0 then some (σ3, (-1)) else (if 0 ≤ p5 then rd LM σ3 1 p1 (fun x5 => jn (cl (fX11_found σ3 1) (fun σ7 r8 => some (σ7, r8))) (fun k6 => (if x5 < 0 then k6 else rd LM σ3 1 p3 (fun x9 => (if 0 ≤ x9 then jn (cl (fX11_found σ3 2) (fun σ11 r12 => some (σ11, r12))) (fun k10 => (if p2 < 0 then k10 else (if p4 < 0 then k10 else rd LM σ3 1 p1 (fun x13 => (if 0 < (lg_cmp ((p2.toInt64) + (p5.toInt64)) (x13.toInt64)) then k10 else rd LM σ3 1 p3 (fun x14 => (if (lg_cmp ((p4.toInt64) + (p5.toInt64)) (x14.toInt64)) ≤ 0 then fX11_copy_L104 p1 p2 p3 p4 p5 10000 σ3 0 (fun σ21 v22 => some (σ21, 1)) else k10))))))) else k6))))) else cl (fX11_found σ3 5) (fun σ23 r24 => some (σ23, r24)))))))
set_option maxHeartbeats 4000000 in
set_option maxRecDepth 100000 in
theorem ctX11_copy (l : Launch) (g : GG) (σ : St) (p1 : Int32) (p2 : Int32) (p3 : Int32) (p4 : Int32) (p5 : Int32) (σ' : St) (r : Int32) (hE : fX11_copy σ p1 p2 p3 p4 p5 = some (σ', r)) : MI 25 entM l g yX11_copy (Cond.code yX11_copy cX11_copy 8 (some .int) :: gtbl) (rmD 3) [.ref (g.2.1 0), .int p1, .int p2, .int p3, .int p4, .int p5] σ σ' r := by
  refine mi_i (own := RX11) (lv := [(0, .ref (g.2.1 0)), (1, .int p1), (2, .int p2), (3, .int p3), (4, .int p4), (5, .int p5)]) (by decide) rfl (Nat.le_of_ble_eq_true rfl) rfl (fun p e s m below meth c ls args Q A H0 H locs C hK hA hQ hs hl => ?_)
  have hx := C.1
  have hb := C.2.1
  unfold fX11_copy at hE
  refine lv_iload_n hx hb dX11_copy_0 rfl (lv_at hl 1 rfl) ?_
  obtain ⟨σ1, r2, hE1, hE⟩ := cl_e hE
  refine x_cis (As := [.int p1]) (rest := []) C hl.1 hK hs hA ⟨Nat.le_refl 0, Nat.le_refl 0⟩ (ctX11_isRow l g _ _ _ _ hE1) (cw_X11_102 C ⟨Nat.le_of_ble_eq_true rfl, Nat.le_of_ble_eq_true rfl⟩) rfl rfl (Nat.le_of_ble_eq_true rfl) dX11_copy_1 (fun H locs hs => ?_)
  refine lv_if_eq (tgt := 14) hx hb dX11_copy_4 (by decide) (fun hc => ?_) (fun hc => ?_)
  · have hE := if_t hc hE
    refine lv_iconst (v := (-1)) hx hb dX11_copy_14 (by decide) ?_
    exact hQ hs hE dX11_copy_15
  · have hE := if_f hc hE
    refine lv_iload_n hx hb dX11_copy_7 rfl (lv_at hl 3 rfl) ?_
    obtain ⟨σ3, r4, hE1, hE⟩ := cl_e hE
    refine x_cis (As := [.int p3]) (rest := []) C hl.1 hK hs hA ⟨Nat.le_refl 0, Nat.le_refl 0⟩ (ctX11_isRow l g _ _ _ _ hE1) (cw_X11_102 C ⟨Nat.le_of_ble_eq_true rfl, Nat.le_of_ble_eq_true rfl⟩) rfl rfl (Nat.le_of_ble_eq_true rfl) dX11_copy_8 (fun H locs hs => ?_)
    refine lv_if_ne (tgt := 16) hx hb dX11_copy_11 (by decide) (fun hc => ?_) (fun hc => ?_)
    · have hE := if_f hc hE
      refine lv_iload hx hb dX11_copy_16 (lv_at hl 5 rfl) ?_
      refine lv_if_ge (tgt := 27) hx hb dX11_copy_18 (by decide) (fun hc => ?_) (fun hc => ?_)
      · have hE := if_t hc hE
        refine lv_aload_n hx hb dX11_copy_27 rfl (lv_at hl 0 rfl) ?_
        refine gf_X11_7_0 C hK hs dX11_copy_28 ?_
        refine lv_iload_n hx hb dX11_copy_31 rfl (lv_at hl 1 rfl) ?_
        obtain ⟨hi, x5, ex5, hE⟩ := rd_w hE
        refine y_ald layM C hK hs hi ex5 dX11_copy_32 ?_
        refine jn0 hE (fun k6 hE hk6 => ?_)
        have hJk6 : ∀  (H : Heap) (locs : List Loc) (ls : Array Slot), HW 25 entM g A H0 H locs σ3 → lv_has ls 8 [(0, .ref (g.2.1 0))] → k6 = some (σ', r) → W p l e (rmD 3) s m args below meth c H locs 0 0 Q (F0 m 45 ls []) := by
          intro H locs ls hs hl hE
          have hE := hk6 hE
          refine lv_aload_n hx hb dX11_copy_45 rfl (lv_at hl 0 rfl) ?_
          refine lv_iconst (v := 1) hx hb dX11_copy_46 (by decide) ?_
          obtain ⟨σ7, r8, hE1, hE⟩ := cl_e hE
          refine x_civ (As := [.int 1]) (rest := []) C hl.1 hK hs hA ⟨Nat.le_refl 0, Nat.le_refl 0⟩ (ctX11_found l g _ _ _ _ hE1) (cw_X11_106 C ⟨Nat.le_of_ble_eq_true rfl, Nat.le_of_ble_eq_true rfl⟩) (hs.recv hK 0 (by decide) rfl rfl) rfl rfl (Nat.le_of_ble_eq_true rfl) dX11_copy_47 (fun H locs hs => ?_)
          exact hQ hs hE dX11_copy_50
        refine lv_if_lt (tgt := 45) hx hb dX11_copy_33 (by decide) (fun hc => ?_) (fun hc => ?_)
        · have hE := if_t hc hE
          exact hJk6  _ _ _ hs (lv_sub hl [0] rfl) hE
        · have hE := if_f hc hE
          refine lv_aload_n hx hb dX11_copy_36 rfl (lv_at hl 0 rfl) ?_
          refine gf_X11_7_0 C hK hs dX11_copy_37 ?_
          refine lv_iload_n hx hb dX11_copy_40 rfl (lv_at hl 3 rfl) ?_
          obtain ⟨hi, x9, ex9, hE⟩ := rd_w hE
          refine y_ald layM C hK hs hi ex9 dX11_copy_41 ?_
          refine lv_if_ge (tgt := 51) hx hb dX11_copy_42 (by decide) (fun hc => ?_) (fun hc => ?_)
          · have hE := if_t hc hE
            refine lv_iload_n hx hb dX11_copy_51 rfl (lv_at hl 2 rfl) ?_
            refine jn0 hE (fun k10 hE hk10 => ?_)
            have hJk10 : ∀  (H : Heap) (locs : List Loc) (ls : Array Slot), HW 25 entM g A H0 H locs σ3 → lv_has ls 8 [(0, .ref (g.2.1 0))] → k10 = some (σ', r) → W p l e (rmD 3) s m args below meth c H locs 0 0 Q (F0 m 95 ls []) := by
              intro H locs ls hs hl hE
              have hE := hk10 hE
              refine lv_aload_n hx hb dX11_copy_95 rfl (lv_at hl 0 rfl) ?_
              refine lv_iconst (v := 2) hx hb dX11_copy_96 (by decide) ?_
              obtain ⟨σ11, r12, hE1, hE⟩ := cl_e hE
              refine x_civ (As := [.int 2]) (rest := []) C hl.1 hK hs hA ⟨Nat.le_refl 0, Nat.le_refl 0⟩ (ctX11_found l g _ _ _ _ hE1) (cw_X11_106 C ⟨Nat.le_of_ble_eq_true rfl, Nat.le_of_ble_eq_true rfl⟩) (hs.recv hK 0 (by decide) rfl rfl) rfl rfl (Nat.le_of_ble_eq_true rfl) dX11_copy_97 (fun H locs hs => ?_)
              exact hQ hs hE dX11_copy_100
            refine lv_if_lt (tgt := 95) hx hb dX11_copy_52 (by decide) (fun hc => ?_) (fun hc => ?_)
            · have hE := if_t hc hE
              exact hJk10  _ _ _ hs (lv_sub hl [0] rfl) hE
            · have hE := if_f hc hE
              refine lv_iload hx hb dX11_copy_55 (lv_at hl 4 rfl) ?_
              refine lv_if_lt (tgt := 95) hx hb dX11_copy_57 (by decide) (fun hc => ?_) (fun hc => ?_)
              · have hE := if_t hc hE
                exact hJk10  _ _ _ hs (lv_sub hl [0] rfl) hE
              · have hE := if_f hc hE
                refine lv_iload_n hx hb dX11_copy_60 rfl (lv_at hl 2 rfl) ?_
                refine lv_i2l (v := p2.toInt64) hx hb dX11_copy_61 rfl ?_
                refine lv_iload hx hb dX11_copy_62 (lv_at hl 5 rfl) ?_
                refine lv_i2l (v := p5.toInt64) hx hb dX11_copy_64 rfl ?_
                refine lv_ladd hx hb dX11_copy_65 ?_
                refine lv_aload_n hx hb dX11_copy_66 rfl (lv_at hl 0 rfl) ?_
                refine gf_X11_7_0 C hK hs dX11_copy_67 ?_
                refine lv_iload_n hx hb dX11_copy_70 rfl (lv_at hl 1 rfl) ?_
                obtain ⟨hi, x13, ex13, hE⟩ := rd_w hE
                refine y_ald layM C hK hs hi ex13 dX11_copy_71 ?_
                refine lv_i2l (v := x13.toInt64) hx hb dX11_copy_72 rfl ?_
                refine W.lcmp hx hb dX11_copy_73 ?_
                refine lv_if_gt (tgt := 95) hx hb dX11_copy_74 (by decide) (fun hc => ?_) (fun hc => ?_)
                · have hE := if_t hc hE
                  exact hJk10  _ _ _ hs (lv_sub hl [0] rfl) hE
                · have hE := if_f hc hE
                  refine lv_iload hx hb dX11_copy_77 (lv_at hl 4 rfl) ?_
                  refine lv_i2l (v := p4.toInt64) hx hb dX11_copy_79 rfl ?_
                  refine lv_iload hx hb dX11_copy_80 (lv_at hl 5 rfl) ?_
                  refine lv_i2l (v := p5.toInt64) hx hb dX11_copy_82 rfl ?_
                  refine lv_ladd hx hb dX11_copy_83 ?_
                  refine lv_aload_n hx hb dX11_copy_84 rfl (lv_at hl 0 rfl) ?_
                  refine gf_X11_7_0 C hK hs dX11_copy_85 ?_
                  refine lv_iload_n hx hb dX11_copy_88 rfl (lv_at hl 3 rfl) ?_
                  obtain ⟨hi, x14, ex14, hE⟩ := rd_w hE
                  refine y_ald layM C hK hs hi ex14 dX11_copy_89 ?_
                  refine lv_i2l (v := x14.toInt64) hx hb dX11_copy_90 rfl ?_
                  refine W.lcmp hx hb dX11_copy_91 ?_
                  refine lv_if_le (tgt := 101) hx hb dX11_copy_92 (by decide) (fun hc => ?_) (fun hc => ?_)
                  · have hE := if_t hc hE
                    refine lv_iconst (v := 0) hx hb dX11_copy_101 (by decide) ?_
                    refine lv_istore (lv' := [(6, .int 0), (0, .ref (g.2.1 0)), (1, .int p1), (2, .int p2), (3, .int p3), (4, .int p4), (5, .int p5)]) hx hb dX11_copy_102 hl (by decide) rfl (fun ls hl => ?_)
                    have hL104 : ∀ (n : Nat) (σ15 : St) (v16 : Int32) (k : St → Int32 → Option (St × Int32)), fX11_copy_L104 p1 p2 p3 p4 p5 n σ15 v16 k = some (σ', r) → (∀ (σ15 : St) (v16 : Int32) (H : Heap) (locs : List Loc) (ls : Array Slot), HW 25 entM g A H0 H locs σ15 → lv_has ls 8 [(0, .ref (g.2.1 0)), (1, .int p1), (2, .int p2), (3, .int p3), (4, .int p4), (5, .int p5), (6, .int v16)] → k σ15 v16 = some (σ', r) → W p l e (rmD 3) s m args below meth c H locs 0 0 Q (F0 m 166 ls [])) → ∀ (H : Heap) (locs : List Loc) (ls : Array Slot), HW 25 entM g A H0 H locs σ15 → lv_has ls 8 [(0, .ref (g.2.1 0)), (1, .int p1), (2, .int p2), (3, .int p3), (4, .int p4), (5, .int p5), (6, .int v16)] → W p l e (rmD 3) s m args below meth c H locs 0 0 Q (F0 m 104 ls []) := by
                      intro n
                      induction n with
                      | zero =>
                        intro σ15 v16 k hE
                        rw [fX11_copy_L104] at hE
                        exact no_e hE
                      | succ n ih =>
                        intro σ15 v16 k hE hk H locs ls hs hl
                        rw [fX11_copy_L104] at hE
                        refine lv_iload hx hb dX11_copy_104 (lv_at hl 6 rfl) ?_
                        refine lv_iload hx hb dX11_copy_106 (lv_at hl 5 rfl) ?_
                        refine lv_icmp_ge (tgt := 166) hx hb dX11_copy_108 (by decide) (fun hc => ?_) (fun hc => ?_)
                        · have hE := if_t hc hE
                          exact hk σ15 v16 _ _ _ hs (lv_sub hl [0, 1, 2, 3, 4, 5, 6] rfl) hE
                        · have hE := if_f hc hE
                          refine lv_iload hx hb dX11_copy_111 (lv_at hl 4 rfl) ?_
                          refine lv_iload_n hx hb dX11_copy_113 rfl (lv_at hl 2 rfl) ?_
                          refine pvw hE (fun k17 hE hk17 => ?_)
                          have hJk17 : ∀ (y18 : Int32) (H : Heap) (locs : List Loc) (ls : Array Slot), HW 25 entM g A H0 H locs σ15 → lv_has ls 8 [(0, .ref (g.2.1 0)), (1, .int p1), (2, .int p2), (3, .int p3), (4, .int p4), (5, .int p5), (6, .int v16)] → k17 y18 = some (σ', r) → W p l e (rmD 3) s m args below meth c H locs 0 0 Q (F0 m 129 ls [.int y18]) := by
                            intro y18 H locs ls hs hl hE
                            have hE := hk17 _ hE
                            refine lv_istore (lv' := [(7, .int y18), (0, .ref (g.2.1 0)), (1, .int p1), (2, .int p2), (3, .int p3), (4, .int p4), (5, .int p5), (6, .int v16)]) hx hb dX11_copy_129 hl (by decide) rfl (fun ls hl => ?_)
                            refine lv_aload_n hx hb dX11_copy_131 rfl (lv_at hl 1 rfl) ?_
                            refine gf_X11_13_0 C hK hs dX11_copy_132 ?_
                            refine lv_bipush (v := 40) hx hb dX11_copy_135 (by decide) ?_
                            refine lv_iload_n hx hb dX11_copy_137 rfl (lv_at hl 4 rfl) ?_
                            refine lv_imul hx hb dX11_copy_138 ?_
                            refine lv_iload hx hb dX11_copy_139 (lv_at hl 5 rfl) ?_
                            refine lv_iadd hx hb dX11_copy_141 ?_
                            refine lv_iload hx hb dX11_copy_142 (lv_at hl 0 rfl) ?_
                            refine lv_iadd hx hb dX11_copy_144 ?_
                            refine lv_aload_n hx hb dX11_copy_145 rfl (lv_at hl 1 rfl) ?_
                            refine gf_X11_13_0 C hK hs dX11_copy_146 ?_
                            refine lv_bipush (v := 40) hx hb dX11_copy_149 (by decide) ?_
                            refine lv_iload_n hx hb dX11_copy_151 rfl (lv_at hl 2 rfl) ?_
                            refine lv_imul hx hb dX11_copy_152 ?_
                            refine lv_iload_n hx hb dX11_copy_153 rfl (lv_at hl 3 rfl) ?_
                            refine lv_iadd hx hb dX11_copy_154 ?_
                            refine lv_iload hx hb dX11_copy_155 (lv_at hl 0 rfl) ?_
                            refine lv_iadd hx hb dX11_copy_157 ?_
                            obtain ⟨hi, x19, ex19, hE⟩ := rd_w hE
                            refine y_ald layM C hK hs hi ex19 dX11_copy_158 ?_
                            obtain ⟨hi, σ20, eσ20, hE⟩ := wr_w hE
                            refine y_ast layM C hK hs hi eσ20 dX11_copy_159 (fun H locs hs => ?_)
                            refine lv_iinc (v := v16 + 1) (lv' := [(6, .int (v16 + 1)), (7, .int y18), (0, .ref (g.2.1 0)), (1, .int p1), (2, .int p2), (3, .int p3), (4, .int p4), (5, .int p5)]) hx hb dX11_copy_160 hl (k := 7) rfl rfl (by decide) rfl (fun ls hl => ?_)
                            refine lv_goto (tgt := 104) hx hb dX11_copy_163 (by decide) ?_
                            exact ih _ _ _ hE hk _ _ _ hs (lv_sub hl [2, 3, 4, 5, 6, 7, 0] rfl)
                          refine lv_icmp_le (tgt := 127) hx hb dX11_copy_114 (by decide) (fun hc => ?_) (fun hc => ?_)
                          · have hE := pv_t hc hE
                            refine lv_iload hx hb dX11_copy_127 (lv_at hl 6 rfl) ?_
                            exact hJk17 v16 _ _ _ hs (lv_sub hl [0, 1, 2, 3, 4, 5, 6] rfl) hE
                          · have hE := pv_f hc hE
                            refine lv_iload hx hb dX11_copy_117 (lv_at hl 5 rfl) ?_
                            refine lv_iconst (v := 1) hx hb dX11_copy_119 (by decide) ?_
                            refine lv_isub hx hb dX11_copy_120 ?_
                            refine lv_iload hx hb dX11_copy_121 (lv_at hl 6 rfl) ?_
                            refine lv_isub hx hb dX11_copy_123 ?_
                            refine lv_goto (tgt := 129) hx hb dX11_copy_124 (by decide) ?_
                            exact hJk17 ((p5 - 1) - v16) _ _ _ hs (lv_sub hl [0, 1, 2, 3, 4, 5, 6] rfl) hE
                    refine hL104 _ _ _ _ hE (fun σ21 v22 H locs ls hs hl hE => ?_) H locs ls hs (lv_sub hl [1, 2, 3, 4, 5, 6, 0] rfl)
                    refine lv_iconst (v := 1) hx hb dX11_copy_166 (by decide) ?_
                    exact hQ hs hE dX11_copy_167
                  · have hE := if_f hc hE
                    exact hJk10  _ _ _ hs (lv_sub hl [0] rfl) hE
          · have hE := if_f hc hE
            exact hJk6  _ _ _ hs (lv_sub hl [0] rfl) hE
      · have hE := if_f hc hE
        refine lv_aload_n hx hb dX11_copy_21 rfl (lv_at hl 0 rfl) ?_
        refine lv_iconst (v := 5) hx hb dX11_copy_22 (by decide) ?_
        obtain ⟨σ23, r24, hE1, hE⟩ := cl_e hE
        refine x_civ (As := [.int 5]) (rest := []) C hl.1 hK hs hA ⟨Nat.le_refl 0, Nat.le_refl 0⟩ (ctX11_found l g _ _ _ _ hE1) (cw_X11_106 C ⟨Nat.le_of_ble_eq_true rfl, Nat.le_of_ble_eq_true rfl⟩) (hs.recv hK 0 (by decide) rfl rfl) rfl rfl (Nat.le_of_ble_eq_true rfl) dX11_copy_23 (fun H locs hs => ?_)
        exact hQ hs hE dX11_copy_26
    · have hE := if_t hc hE
      refine lv_iconst (v := (-1)) hx hb dX11_copy_14 (by decide) ?_
      exact hQ hs hE dX11_copy_15
theorem dX11_mean_0 : decode cX11_mean 0 = .ok (.iload_n 1, 1) := by decide +kernel
theorem dX11_mean_1 : decode cX11_mean 1 = .ok (.invokestatic 102, 3) := by decide +kernel
theorem dX11_mean_4 : decode cX11_mean 4 = .ok (.ifCond .ne 5, 3) := by decide +kernel
theorem dX11_mean_7 : decode cX11_mean 7 = .ok (.iconst (-1), 1) := by decide +kernel
theorem dX11_mean_8 : decode cX11_mean 8 = .ok (.ireturn, 1) := by decide +kernel
theorem dX11_mean_9 : decode cX11_mean 9 = .ok (.aload_n 0, 1) := by decide +kernel
theorem dX11_mean_10 : decode cX11_mean 10 = .ok (.getfield 7, 3) := by decide +kernel
theorem dX11_mean_13 : decode cX11_mean 13 = .ok (.iload_n 1, 1) := by decide +kernel
theorem dX11_mean_14 : decode cX11_mean 14 = .ok (.iaload, 1) := by decide +kernel
theorem dX11_mean_15 : decode cX11_mean 15 = .ok (.ifCond .ge 9, 3) := by decide +kernel
theorem dX11_mean_18 : decode cX11_mean 18 = .ok (.aload_n 0, 1) := by decide +kernel
theorem dX11_mean_19 : decode cX11_mean 19 = .ok (.iconst 1, 1) := by decide +kernel
theorem dX11_mean_20 : decode cX11_mean 20 = .ok (.invokevirtual 106, 3) := by decide +kernel
theorem dX11_mean_23 : decode cX11_mean 23 = .ok (.ireturn, 1) := by decide +kernel
theorem dX11_mean_24 : decode cX11_mean 24 = .ok (.aload_n 0, 1) := by decide +kernel
theorem dX11_mean_25 : decode cX11_mean 25 = .ok (.getfield 7, 3) := by decide +kernel
theorem dX11_mean_28 : decode cX11_mean 28 = .ok (.iload_n 1, 1) := by decide +kernel
theorem dX11_mean_29 : decode cX11_mean 29 = .ok (.iaload, 1) := by decide +kernel
theorem dX11_mean_30 : decode cX11_mean 30 = .ok (.ifCond .ne 9, 3) := by decide +kernel
theorem dX11_mean_33 : decode cX11_mean 33 = .ok (.aload_n 0, 1) := by decide +kernel
theorem dX11_mean_34 : decode cX11_mean 34 = .ok (.iconst 4, 1) := by decide +kernel
theorem dX11_mean_35 : decode cX11_mean 35 = .ok (.invokevirtual 106, 3) := by decide +kernel
theorem dX11_mean_38 : decode cX11_mean 38 = .ok (.ireturn, 1) := by decide +kernel
theorem dX11_mean_39 : decode cX11_mean 39 = .ok (.lconst 0, 1) := by decide +kernel
theorem dX11_mean_40 : decode cX11_mean 40 = .ok (.lstore_n 2, 1) := by decide +kernel
theorem dX11_mean_41 : decode cX11_mean 41 = .ok (.iconst 0, 1) := by decide +kernel
theorem dX11_mean_42 : decode cX11_mean 42 = .ok (.istore 4, 2) := by decide +kernel
theorem dX11_mean_44 : decode cX11_mean 44 = .ok (.iload 4, 2) := by decide +kernel
theorem dX11_mean_46 : decode cX11_mean 46 = .ok (.aload_n 0, 1) := by decide +kernel
theorem dX11_mean_47 : decode cX11_mean 47 = .ok (.getfield 7, 3) := by decide +kernel
theorem dX11_mean_50 : decode cX11_mean 50 = .ok (.iload_n 1, 1) := by decide +kernel
theorem dX11_mean_51 : decode cX11_mean 51 = .ok (.iaload, 1) := by decide +kernel
theorem dX11_mean_52 : decode cX11_mean 52 = .ok (.if_icmp .ge 25, 3) := by decide +kernel
theorem dX11_mean_55 : decode cX11_mean 55 = .ok (.lload_n 2, 1) := by decide +kernel
theorem dX11_mean_56 : decode cX11_mean 56 = .ok (.aload_n 0, 1) := by decide +kernel
theorem dX11_mean_57 : decode cX11_mean 57 = .ok (.getfield 13, 3) := by decide +kernel
theorem dX11_mean_60 : decode cX11_mean 60 = .ok (.bipush 40, 2) := by decide +kernel
theorem dX11_mean_62 : decode cX11_mean 62 = .ok (.iload_n 1, 1) := by decide +kernel
theorem dX11_mean_63 : decode cX11_mean 63 = .ok (.imul, 1) := by decide +kernel
theorem dX11_mean_64 : decode cX11_mean 64 = .ok (.iload 4, 2) := by decide +kernel
theorem dX11_mean_66 : decode cX11_mean 66 = .ok (.iadd, 1) := by decide +kernel
theorem dX11_mean_67 : decode cX11_mean 67 = .ok (.iaload, 1) := by decide +kernel
theorem dX11_mean_68 : decode cX11_mean 68 = .ok (.i2l, 1) := by decide +kernel
theorem dX11_mean_69 : decode cX11_mean 69 = .ok (.ladd, 1) := by decide +kernel
theorem dX11_mean_70 : decode cX11_mean 70 = .ok (.lstore_n 2, 1) := by decide +kernel
theorem dX11_mean_71 : decode cX11_mean 71 = .ok (.iinc 4 1, 3) := by decide +kernel
theorem dX11_mean_74 : decode cX11_mean 74 = .ok (.goto (-30), 3) := by decide +kernel
theorem dX11_mean_77 : decode cX11_mean 77 = .ok (.aload_n 0, 1) := by decide +kernel
theorem dX11_mean_78 : decode cX11_mean 78 = .ok (.lload_n 2, 1) := by decide +kernel
theorem dX11_mean_79 : decode cX11_mean 79 = .ok (.aload_n 0, 1) := by decide +kernel
theorem dX11_mean_80 : decode cX11_mean 80 = .ok (.getfield 7, 3) := by decide +kernel
theorem dX11_mean_83 : decode cX11_mean 83 = .ok (.iload_n 1, 1) := by decide +kernel
theorem dX11_mean_84 : decode cX11_mean 84 = .ok (.iaload, 1) := by decide +kernel
theorem dX11_mean_85 : decode cX11_mean 85 = .ok (.i2l, 1) := by decide +kernel
theorem dX11_mean_86 : decode cX11_mean 86 = .ok (.ldiv, 1) := by decide +kernel
theorem dX11_mean_87 : decode cX11_mean 87 = .ok (.l2i, 1) := by decide +kernel
theorem dX11_mean_88 : decode cX11_mean 88 = .ok (.invokevirtual 110, 3) := by decide +kernel
theorem dX11_mean_91 : decode cX11_mean 91 = .ok (.ireturn, 1) := by decide +kernel
def fX11_mean_L44 (p1 : Int32) : Nat → St → Int64 → Int32 → (St → Int64 → Int32 → Option (St × Int32)) → Option (St × Int32)
  | 0, _, _, _, _ => none
  | n + 1, σ5, v6, v7, k => rd LM σ5 1 p1 (fun x8 => (if x8 ≤ v7 then k σ5 v6 v7 else rd LM σ5 2 ((40 * p1) + v7) (fun x9 => fX11_mean_L44 p1 n σ5 (v6 + (x9.toInt64)) (v7 + 1) k)))
def fX11_mean (σ : St) (p1 : Int32) : Option (St × Int32) := cl (fX11_isRow σ p1) (fun σ1 r2 => (if r2 = 0 then some (σ1, (-1)) else rd LM σ1 1 p1 (fun x3 => (if 0 ≤ x3 then rd LM σ1 1 p1 (fun x4 => (if x4 = 0 then cl (fX11_found σ1 4) (fun σ16 r17 => some (σ16, r17)) else fX11_mean_L44 p1 10000 σ1 0 0 (fun σ10 v11 v12 => rd LM σ10 1 p1 (fun x13 => gd (decide (¬ (x13.toInt64) = 0)) (cl (fX11_tell σ10 ((v11 / (x13.toInt64)).toInt32)) (fun σ14 r15 => some (σ14, r15))))))) else cl (fX11_found σ1 1) (fun σ18 r19 => some (σ18, r19))))))
set_option maxHeartbeats 4000000 in
set_option maxRecDepth 100000 in
theorem ctX11_mean (l : Launch) (g : GG) (σ : St) (p1 : Int32) (σ' : St) (r : Int32) (hE : fX11_mean σ p1 = some (σ', r)) : MI 25 entM l g yX11_mean (Cond.code yX11_mean cX11_mean 5 (some .int) :: gtbl) (rmD 3) [.ref (g.2.1 0), .int p1] σ σ' r := by
  refine mi_i (own := RX11) (lv := [(0, .ref (g.2.1 0)), (1, .int p1)]) (by decide) rfl (Nat.le_of_ble_eq_true rfl) rfl (fun p e s m below meth c ls args Q A H0 H locs C hK hA hQ hs hl => ?_)
  have hx := C.1
  have hb := C.2.1
  unfold fX11_mean at hE
  refine lv_iload_n hx hb dX11_mean_0 rfl (lv_at hl 1 rfl) ?_
  obtain ⟨σ1, r2, hE1, hE⟩ := cl_e hE
  refine x_cis (As := [.int p1]) (rest := []) C hl.1 hK hs hA ⟨Nat.le_refl 0, Nat.le_refl 0⟩ (ctX11_isRow l g _ _ _ _ hE1) (cw_X11_102 C ⟨Nat.le_of_ble_eq_true rfl, Nat.le_of_ble_eq_true rfl⟩) rfl rfl (Nat.le_of_ble_eq_true rfl) dX11_mean_1 (fun H locs hs => ?_)
  refine lv_if_ne (tgt := 9) hx hb dX11_mean_4 (by decide) (fun hc => ?_) (fun hc => ?_)
  · have hE := if_f hc hE
    refine lv_aload_n hx hb dX11_mean_9 rfl (lv_at hl 0 rfl) ?_
    refine gf_X11_7_0 C hK hs dX11_mean_10 ?_
    refine lv_iload_n hx hb dX11_mean_13 rfl (lv_at hl 1 rfl) ?_
    obtain ⟨hi, x3, ex3, hE⟩ := rd_w hE
    refine y_ald layM C hK hs hi ex3 dX11_mean_14 ?_
    refine lv_if_ge (tgt := 24) hx hb dX11_mean_15 (by decide) (fun hc => ?_) (fun hc => ?_)
    · have hE := if_t hc hE
      refine lv_aload_n hx hb dX11_mean_24 rfl (lv_at hl 0 rfl) ?_
      refine gf_X11_7_0 C hK hs dX11_mean_25 ?_
      refine lv_iload_n hx hb dX11_mean_28 rfl (lv_at hl 1 rfl) ?_
      obtain ⟨hi, x4, ex4, hE⟩ := rd_w hE
      refine y_ald layM C hK hs hi ex4 dX11_mean_29 ?_
      refine lv_if_ne (tgt := 39) hx hb dX11_mean_30 (by decide) (fun hc => ?_) (fun hc => ?_)
      · have hE := if_f hc hE
        refine lv_lconst (v := 0) hx hb dX11_mean_39 (by decide) ?_
        refine lv_lstore_n (lv' := [(2, .long 0), (0, .ref (g.2.1 0)), (1, .int p1)]) hx hb dX11_mean_40 rfl hl (by decide) rfl (fun ls hl => ?_)
        refine lv_iconst (v := 0) hx hb dX11_mean_41 (by decide) ?_
        refine lv_istore (lv' := [(4, .int 0), (2, .long 0), (0, .ref (g.2.1 0)), (1, .int p1)]) hx hb dX11_mean_42 hl (by decide) rfl (fun ls hl => ?_)
        have hL44 : ∀ (n : Nat) (σ5 : St) (v6 : Int64) (v7 : Int32) (k : St → Int64 → Int32 → Option (St × Int32)), fX11_mean_L44 p1 n σ5 v6 v7 k = some (σ', r) → (∀ (σ5 : St) (v6 : Int64) (v7 : Int32) (H : Heap) (locs : List Loc) (ls : Array Slot), HW 25 entM g A H0 H locs σ5 → lv_has ls 5 [(0, .ref (g.2.1 0)), (1, .int p1), (2, .long v6), (4, .int v7)] → k σ5 v6 v7 = some (σ', r) → W p l e (rmD 3) s m args below meth c H locs 0 0 Q (F0 m 77 ls [])) → ∀ (H : Heap) (locs : List Loc) (ls : Array Slot), HW 25 entM g A H0 H locs σ5 → lv_has ls 5 [(0, .ref (g.2.1 0)), (1, .int p1), (2, .long v6), (4, .int v7)] → W p l e (rmD 3) s m args below meth c H locs 0 0 Q (F0 m 44 ls []) := by
          intro n
          induction n with
          | zero =>
            intro σ5 v6 v7 k hE
            rw [fX11_mean_L44] at hE
            exact no_e hE
          | succ n ih =>
            intro σ5 v6 v7 k hE hk H locs ls hs hl
            rw [fX11_mean_L44] at hE
            refine lv_iload hx hb dX11_mean_44 (lv_at hl 3 rfl) ?_
            refine lv_aload_n hx hb dX11_mean_46 rfl (lv_at hl 0 rfl) ?_
            refine gf_X11_7_0 C hK hs dX11_mean_47 ?_
            refine lv_iload_n hx hb dX11_mean_50 rfl (lv_at hl 1 rfl) ?_
            obtain ⟨hi, x8, ex8, hE⟩ := rd_w hE
            refine y_ald layM C hK hs hi ex8 dX11_mean_51 ?_
            refine lv_icmp_ge (tgt := 77) hx hb dX11_mean_52 (by decide) (fun hc => ?_) (fun hc => ?_)
            · have hE := if_t hc hE
              exact hk σ5 v6 v7 _ _ _ hs (lv_sub hl [0, 1, 2, 3] rfl) hE
            · have hE := if_f hc hE
              refine lv_lload_n hx hb dX11_mean_55 rfl (lv_at hl 2 rfl) ?_
              refine lv_aload_n hx hb dX11_mean_56 rfl (lv_at hl 0 rfl) ?_
              refine gf_X11_13_0 C hK hs dX11_mean_57 ?_
              refine lv_bipush (v := 40) hx hb dX11_mean_60 (by decide) ?_
              refine lv_iload_n hx hb dX11_mean_62 rfl (lv_at hl 1 rfl) ?_
              refine lv_imul hx hb dX11_mean_63 ?_
              refine lv_iload hx hb dX11_mean_64 (lv_at hl 3 rfl) ?_
              refine lv_iadd hx hb dX11_mean_66 ?_
              obtain ⟨hi, x9, ex9, hE⟩ := rd_w hE
              refine y_ald layM C hK hs hi ex9 dX11_mean_67 ?_
              refine lv_i2l (v := x9.toInt64) hx hb dX11_mean_68 rfl ?_
              refine lv_ladd hx hb dX11_mean_69 ?_
              refine lv_lstore_n (lv' := [(2, .long (v6 + (x9.toInt64))), (0, .ref (g.2.1 0)), (1, .int p1), (4, .int v7)]) hx hb dX11_mean_70 rfl hl (by decide) rfl (fun ls hl => ?_)
              refine lv_iinc (v := v7 + 1) (lv' := [(4, .int (v7 + 1)), (2, .long (v6 + (x9.toInt64))), (0, .ref (g.2.1 0)), (1, .int p1)]) hx hb dX11_mean_71 hl (k := 3) rfl rfl (by decide) rfl (fun ls hl => ?_)
              refine lv_goto (tgt := 44) hx hb dX11_mean_74 (by decide) ?_
              exact ih _ _ _ _ hE hk _ _ _ hs (lv_sub hl [2, 3, 1, 0] rfl)
        refine hL44 _ _ _ _ _ hE (fun σ10 v11 v12 H locs ls hs hl hE => ?_) H locs ls hs (lv_sub hl [2, 3, 1, 0] rfl)
        refine lv_aload_n hx hb dX11_mean_77 rfl (lv_at hl 0 rfl) ?_
        refine lv_lload_n hx hb dX11_mean_78 rfl (lv_at hl 2 rfl) ?_
        refine lv_aload_n hx hb dX11_mean_79 rfl (lv_at hl 0 rfl) ?_
        refine gf_X11_7_0 C hK hs dX11_mean_80 ?_
        refine lv_iload_n hx hb dX11_mean_83 rfl (lv_at hl 1 rfl) ?_
        obtain ⟨hi, x13, ex13, hE⟩ := rd_w hE
        refine y_ald layM C hK hs hi ex13 dX11_mean_84 ?_
        refine lv_i2l (v := x13.toInt64) hx hb dX11_mean_85 rfl ?_
        obtain ⟨hc, hE⟩ := gd_e hE
        refine lv_ldiv hx hb dX11_mean_86 (of_decide_eq_true hc) ?_
        refine lv_l2i (v := (v11 / (x13.toInt64)).toInt32) hx hb dX11_mean_87 rfl ?_
        obtain ⟨σ14, r15, hE1, hE⟩ := cl_e hE
        refine x_civ (As := [.int ((v11 / (x13.toInt64)).toInt32)]) (rest := []) C hl.1 hK hs hA ⟨Nat.le_refl 0, Nat.le_refl 0⟩ (ctX11_tell l g _ _ _ _ hE1) (cw_X11_110 C ⟨Nat.le_of_ble_eq_true rfl, Nat.le_of_ble_eq_true rfl⟩) (hs.recv hK 0 (by decide) rfl rfl) rfl rfl (Nat.le_of_ble_eq_true rfl) dX11_mean_88 (fun H locs hs => ?_)
        exact hQ hs hE dX11_mean_91
      · have hE := if_t hc hE
        refine lv_aload_n hx hb dX11_mean_33 rfl (lv_at hl 0 rfl) ?_
        refine lv_iconst (v := 4) hx hb dX11_mean_34 (by decide) ?_
        obtain ⟨σ16, r17, hE1, hE⟩ := cl_e hE
        refine x_civ (As := [.int 4]) (rest := []) C hl.1 hK hs hA ⟨Nat.le_refl 0, Nat.le_refl 0⟩ (ctX11_found l g _ _ _ _ hE1) (cw_X11_106 C ⟨Nat.le_of_ble_eq_true rfl, Nat.le_of_ble_eq_true rfl⟩) (hs.recv hK 0 (by decide) rfl rfl) rfl rfl (Nat.le_of_ble_eq_true rfl) dX11_mean_35 (fun H locs hs => ?_)
        exact hQ hs hE dX11_mean_38
    · have hE := if_f hc hE
      refine lv_aload_n hx hb dX11_mean_18 rfl (lv_at hl 0 rfl) ?_
      refine lv_iconst (v := 1) hx hb dX11_mean_19 (by decide) ?_
      obtain ⟨σ18, r19, hE1, hE⟩ := cl_e hE
      refine x_civ (As := [.int 1]) (rest := []) C hl.1 hK hs hA ⟨Nat.le_refl 0, Nat.le_refl 0⟩ (ctX11_found l g _ _ _ _ hE1) (cw_X11_106 C ⟨Nat.le_of_ble_eq_true rfl, Nat.le_of_ble_eq_true rfl⟩) (hs.recv hK 0 (by decide) rfl rfl) rfl rfl (Nat.le_of_ble_eq_true rfl) dX11_mean_20 (fun H locs hs => ?_)
      exact hQ hs hE dX11_mean_23
  · have hE := if_t hc hE
    refine lv_iconst (v := (-1)) hx hb dX11_mean_7 (by decide) ?_
    exact hQ hs hE dX11_mean_8
