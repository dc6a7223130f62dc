theorem dX3_cutTo_0 : decode cX3_cutTo 0 = .ok (.aload_n 0, 1) := by decide +kernel
theorem dX3_cutTo_1 : decode cX3_cutTo 1 = .ok (.iload_n 1, 1) := by decide +kernel
theorem dX3_cutTo_2 : decode cX3_cutTo 2 = .ok (.putfield 34, 3) := by decide +kernel
theorem dX3_cutTo_5 : decode cX3_cutTo 5 = .ok (.aload_n 0, 1) := by decide +kernel
theorem dX3_cutTo_6 : decode cX3_cutTo 6 = .ok (.getfield 10, 3) := by decide +kernel
theorem dX3_cutTo_9 : decode cX3_cutTo 9 = .ok (.invokevirtual 38, 3) := by decide +kernel
theorem dX3_cutTo_12 : decode cX3_cutTo 12 = .ok (.iconst 0, 1) := by decide +kernel
theorem dX3_cutTo_13 : decode cX3_cutTo 13 = .ok (.istore_n 2, 1) := by decide +kernel
theorem dX3_cutTo_14 : decode cX3_cutTo 14 = .ok (.iload_n 2, 1) := by decide +kernel
theorem dX3_cutTo_15 : decode cX3_cutTo 15 = .ok (.iload_n 1, 1) := by decide +kernel
theorem dX3_cutTo_16 : decode cX3_cutTo 16 = .ok (.if_icmp .ge 19, 3) := by decide +kernel
theorem dX3_cutTo_19 : decode cX3_cutTo 19 = .ok (.aload_n 0, 1) := by decide +kernel
theorem dX3_cutTo_20 : decode cX3_cutTo 20 = .ok (.aload_n 0, 1) := by decide +kernel
theorem dX3_cutTo_21 : decode cX3_cutTo 21 = .ok (.getfield 16, 3) := by decide +kernel
theorem dX3_cutTo_24 : decode cX3_cutTo 24 = .ok (.iload_n 2, 1) := by decide +kernel
theorem dX3_cutTo_25 : decode cX3_cutTo 25 = .ok (.iaload, 1) := by decide +kernel
theorem dX3_cutTo_26 : decode cX3_cutTo 26 = .ok (.invokevirtual 41, 3) := by decide +kernel
theorem dX3_cutTo_29 : decode cX3_cutTo 29 = .ok (.iinc 2 1, 3) := by decide +kernel
theorem dX3_cutTo_32 : decode cX3_cutTo 32 = .ok (.goto (-18), 3) := by decide +kernel
theorem dX3_cutTo_35 : decode cX3_cutTo 35 = .ok (.return_, 1) := by decide +kernel
def fX3_cutTo_L14 (p1 : Int32) : Nat → St → Int32 → (St → Int32 → Option (St × Unit)) → Option (St × Unit)
  | 0, _, _, _ => none
  | n + 1, σ4, v5, k => (if p1 ≤ v5 then k σ4 v5 else rd LC σ4 35 v5 (fun x6 => cl (fX3_perform σ4 x6) (fun σ7 r8 => fX3_cutTo_L14 p1 n σ7 (v5 + 1) k)))
def fX3_cutTo (σ : St) (p1 : Int32) : Option (St × Unit) := pt (su σ 24 4 p1) (fun σ1 => cl (fX9_begin σ1) (fun σ2 r3 => fX3_cutTo_L14 p1 10000 σ2 0 (fun σ9 v10 => some (σ9, ()))))
set_option maxHeartbeats 4000000 in
set_option maxRecDepth 100000 in
theorem ctX3_cutTo (l : Launch) (g : GG) (σ : St) (p1 : Int32) (σ' : St) (r : Unit) (hE : fX3_cutTo σ p1 = some (σ', r)) : MV 52 entC l g yX3_cutTo (Cond.code yX3_cutTo cX3_cutTo 3 none :: gtbl) (rmD 5) [.ref (g.2.1 24), .int p1] σ σ' := by
  refine mi_v (own := RX3) (lv := [(0, .ref (g.2.1 24)), (1, .int p1)]) (by decide) rfl (Nat.le_of_ble_eq_true rfl) rfl (fun p e s m below meth c ls args Q A H0 H locs C hK hA hQ hs hl => ?_)
  have hx := C.1
  have hb := C.2.1
  unfold fX3_cutTo at hE
  refine lv_aload_n hx hb dX3_cutTo_0 rfl (lv_at hl 0 rfl) ?_
  refine lv_iload_n hx hb dX3_cutTo_1 rfl (lv_at hl 1 rfl) ?_
  obtain ⟨σ1, eσ1, hE⟩ := pt_w hE
  refine pf_X3_34_24 C hK hs eσ1 dX3_cutTo_2 (fun H locs hs => ?_)
  refine lv_aload_n hx hb dX3_cutTo_5 rfl (lv_at hl 0 rfl) ?_
  refine gf_X3_10_24 C hK hs dX3_cutTo_6 ?_
  obtain ⟨σ2, r3, hE1, hE⟩ := cl_e hE
  refine x_cvv (As := []) (rest := []) C hl.1 hK hs hA ⟨Nat.le_refl 0, Nat.le_refl 0⟩ (ctX9_begin l g _  _ _ hE1) (cw_X3_38 C ⟨Nat.le_of_ble_eq_true rfl, Nat.le_of_ble_eq_true rfl⟩) (hs.recv hK 25 (by decide) rfl rfl) rfl rfl (Nat.le_of_ble_eq_true rfl) dX3_cutTo_9 (fun H locs hs => ?_)
  refine lv_iconst (v := 0) hx hb dX3_cutTo_12 (by decide) ?_
  refine lv_istore_n (lv' := [(2, .int 0), (0, .ref (g.2.1 24)), (1, .int p1)]) hx hb dX3_cutTo_13 rfl hl (by decide) rfl (fun ls hl => ?_)
  have hL14 : ∀ (n : Nat) (σ4 : St) (v5 : Int32) (k : St → Int32 → Option (St × Unit)), fX3_cutTo_L14 p1 n σ4 v5 k = some (σ', r) → (∀ (σ4 : St) (v5 : Int32) (H : Heap) (locs : List Loc) (ls : Array Slot), HW 52 entC g A H0 H locs σ4 → lv_has ls 3 [(0, .ref (g.2.1 24)), (1, .int p1), (2, .int v5)] → k σ4 v5 = some (σ', r) → W p l e (rmD 5) s m args below meth c H locs 0 0 Q (F0 m 35 ls [])) → ∀ (H : Heap) (locs : List Loc) (ls : Array Slot), HW 52 entC g A H0 H locs σ4 → lv_has ls 3 [(0, .ref (g.2.1 24)), (1, .int p1), (2, .int v5)] → W p l e (rmD 5) s m args below meth c H locs 0 0 Q (F0 m 14 ls []) := by
    intro n
    induction n with
    | zero =>
      intro σ4 v5 k hE
      rw [fX3_cutTo_L14] at hE
      exact no_e hE
    | succ n ih =>
      intro σ4 v5 k hE hk H locs ls hs hl
      rw [fX3_cutTo_L14] at hE
      refine lv_iload_n hx hb dX3_cutTo_14 rfl (lv_at hl 2 rfl) ?_
      refine lv_iload_n hx hb dX3_cutTo_15 rfl (lv_at hl 1 rfl) ?_
      refine lv_icmp_ge (tgt := 35) hx hb dX3_cutTo_16 (by decide) (fun hc => ?_) (fun hc => ?_)
      · have hE := if_t hc hE
        exact hk σ4 v5 _ _ _ hs (lv_sub hl [0, 1, 2] rfl) hE
      · have hE := if_f hc hE
        refine lv_aload_n hx hb dX3_cutTo_19 rfl (lv_at hl 0 rfl) ?_
        refine lv_aload_n hx hb dX3_cutTo_20 rfl (lv_at hl 0 rfl) ?_
        refine gf_X3_16_24 C hK hs dX3_cutTo_21 ?_
        refine lv_iload_n hx hb dX3_cutTo_24 rfl (lv_at hl 2 rfl) ?_
        obtain ⟨hi, x6, ex6, hE⟩ := rd_w hE
        refine y_ald layC C hK hs hi ex6 dX3_cutTo_25 ?_
        obtain ⟨σ7, r8, hE1, hE⟩ := cl_e hE
        refine x_cvv (As := [.int x6]) (rest := []) C hl.1 hK hs hA ⟨Nat.le_refl 0, Nat.le_refl 0⟩ (ctX3_perform l g _ _ _ _ hE1) (cw_X3_41 C ⟨Nat.le_of_ble_eq_true rfl, Nat.le_of_ble_eq_true rfl⟩) (hs.recv hK 24 (by decide) rfl rfl) rfl rfl (Nat.le_of_ble_eq_true rfl) dX3_cutTo_26 (fun H locs hs => ?_)
        refine lv_iinc (v := v5 + 1) (lv' := [(2, .int (v5 + 1)), (0, .ref (g.2.1 24)), (1, .int p1)]) hx hb dX3_cutTo_29 hl (k := 2) rfl rfl (by decide) rfl (fun ls hl => ?_)
        refine lv_goto (tgt := 14) hx hb dX3_cutTo_32 (by decide) ?_
        exact ih _ _ _ hE hk _ _ _ hs (lv_sub hl [1, 2, 0] rfl)
  refine hL14 _ _ _ _ hE (fun σ9 v10 H locs ls hs hl hE => ?_) H locs ls hs (lv_sub hl [1, 2, 0] rfl)
  exact hQ hs hE dX3_cutTo_35
theorem dX3_isShelf_0 : decode cX3_isShelf 0 = .ok (.iload_n 1, 1) := by decide +kernel
theorem dX3_isShelf_1 : decode cX3_isShelf 1 = .ok (.ifCond .lt 12, 3) := by decide +kernel
theorem dX3_isShelf_4 : decode cX3_isShelf 4 = .ok (.iload_n 1, 1) := by decide +kernel
theorem dX3_isShelf_5 : decode cX3_isShelf 5 = .ok (.iconst 3, 1) := by decide +kernel
theorem dX3_isShelf_6 : decode cX3_isShelf 6 = .ok (.if_icmp .ge 7, 3) := by decide +kernel
theorem dX3_isShelf_9 : decode cX3_isShelf 9 = .ok (.iconst 1, 1) := by decide +kernel
theorem dX3_isShelf_10 : decode cX3_isShelf 10 = .ok (.goto 4, 3) := by decide +kernel
theorem dX3_isShelf_13 : decode cX3_isShelf 13 = .ok (.iconst 0, 1) := by decide +kernel
theorem dX3_isShelf_14 : decode cX3_isShelf 14 = .ok (.ireturn, 1) := by decide +kernel
def fX3_isShelf (σ : St) (p1 : Int32) : Option (St × Int32) := (if p1 < 0 then some (σ, 0) else (if 3 ≤ p1 then some (σ, 0) else some (σ, 1)))
set_option maxHeartbeats 4000000 in
set_option maxRecDepth 100000 in
theorem ctX3_isShelf (l : Launch) (g : GG) (σ : St) (p1 : Int32) (σ' : St) (r : Int32) (hE : fX3_isShelf σ p1 = some (σ', r)) : MI 52 entC l g yX3_isShelf (Cond.code yX3_isShelf cX3_isShelf 2 (some .boolean) :: gtbl) (rmD 1) [.ref (g.2.1 24), .int p1] σ σ' r := by
  refine mi_z (own := RX3) (lv := [(0, .ref (g.2.1 24)), (1, .int p1)]) (by decide) rfl (Nat.le_of_ble_eq_true rfl) rfl (fun p e s m below meth c ls args Q A H0 H locs C hK hA hQ hs hl => ?_)
  have hx := C.1
  have hb := C.2.1
  unfold fX3_isShelf at hE
  refine lv_iload_n hx hb dX3_isShelf_0 rfl (lv_at hl 1 rfl) ?_
  refine lv_if_lt (tgt := 13) hx hb dX3_isShelf_1 (by decide) (fun hc => ?_) (fun hc => ?_)
  · have hE := if_t hc hE
    refine lv_iconst (v := 0) hx hb dX3_isShelf_13 (by decide) ?_
    exact hQ hs rfl hE dX3_isShelf_14
  · have hE := if_f hc hE
    refine lv_iload_n hx hb dX3_isShelf_4 rfl (lv_at hl 1 rfl) ?_
    refine lv_iconst (v := 3) hx hb dX3_isShelf_5 (by decide) ?_
    refine lv_icmp_ge (tgt := 13) hx hb dX3_isShelf_6 (by decide) (fun hc => ?_) (fun hc => ?_)
    · have hE := if_t hc hE
      refine lv_iconst (v := 0) hx hb dX3_isShelf_13 (by decide) ?_
      exact hQ hs rfl hE dX3_isShelf_14
    · have hE := if_f hc hE
      refine lv_iconst (v := 1) hx hb dX3_isShelf_9 (by decide) ?_
      refine lv_goto (tgt := 14) hx hb dX3_isShelf_10 (by decide) ?_
      exact hQ hs rfl hE dX3_isShelf_14
theorem dX3_shelved_0 : decode cX3_shelved 0 = .ok (.aload_n 0, 1) := by decide +kernel
theorem dX3_shelved_1 : decode cX3_shelved 1 = .ok (.getfield 25, 3) := by decide +kernel
theorem dX3_shelved_4 : decode cX3_shelved 4 = .ok (.iload_n 1, 1) := by decide +kernel
theorem dX3_shelved_5 : decode cX3_shelved 5 = .ok (.iaload, 1) := by decide +kernel
theorem dX3_shelved_6 : decode cX3_shelved 6 = .ok (.ireturn, 1) := by decide +kernel
def fX3_shelved (σ : St) (p1 : Int32) : Option (St × Int32) := rd LC σ 40 p1 (fun x1 => some (σ, x1))
set_option maxHeartbeats 4000000 in
set_option maxRecDepth 100000 in
theorem ctX3_shelved (l : Launch) (g : GG) (σ : St) (p1 : Int32) (σ' : St) (r : Int32) (hE : fX3_shelved σ p1 = some (σ', r)) : MI 52 entC l g yX3_shelved (Cond.code yX3_shelved cX3_shelved 2 (some .int) :: gtbl) (rmD 1) [.ref (g.2.1 24), .int p1] σ σ' r := by
  refine mi_i (own := RX3) (lv := [(0, .ref (g.2.1 24)), (1, .int p1)]) (by decide) rfl (Nat.le_of_ble_eq_true rfl) rfl (fun p e s m below meth c ls args Q A H0 H locs C hK hA hQ hs hl => ?_)
  have hx := C.1
  have hb := C.2.1
  unfold fX3_shelved at hE
  refine lv_aload_n hx hb dX3_shelved_0 rfl (lv_at hl 0 rfl) ?_
  refine gf_X3_25_24 C hK hs dX3_shelved_1 ?_
  refine lv_iload_n hx hb dX3_shelved_4 rfl (lv_at hl 1 rfl) ?_
  obtain ⟨hi, x1, ex1, hE⟩ := rd_w hE
  refine y_ald layC C hK hs hi ex1 dX3_shelved_5 ?_
  exact hQ hs hE dX3_shelved_6
theorem dX3_manyShelved_0 : decode cX3_manyShelved 0 = .ok (.iconst 0, 1) := by decide +kernel
theorem dX3_manyShelved_1 : decode cX3_manyShelved 1 = .ok (.istore_n 1, 1) := by decide +kernel
theorem dX3_manyShelved_2 : decode cX3_manyShelved 2 = .ok (.iconst 0, 1) := by decide +kernel
theorem dX3_manyShelved_3 : decode cX3_manyShelved 3 = .ok (.istore_n 2, 1) := by decide +kernel
theorem dX3_manyShelved_4 : decode cX3_manyShelved 4 = .ok (.iload_n 2, 1) := by decide +kernel
theorem dX3_manyShelved_5 : decode cX3_manyShelved 5 = .ok (.iconst 3, 1) := by decide +kernel
theorem dX3_manyShelved_6 : decode cX3_manyShelved 6 = .ok (.if_icmp .ge 21, 3) := by decide +kernel
theorem dX3_manyShelved_9 : decode cX3_manyShelved 9 = .ok (.aload_n 0, 1) := by decide +kernel
theorem dX3_manyShelved_10 : decode cX3_manyShelved 10 = .ok (.getfield 25, 3) := by decide +kernel
theorem dX3_manyShelved_13 : decode cX3_manyShelved 13 = .ok (.iload_n 2, 1) := by decide +kernel
theorem dX3_manyShelved_14 : decode cX3_manyShelved 14 = .ok (.iaload, 1) := by decide +kernel
theorem dX3_manyShelved_15 : decode cX3_manyShelved 15 = .ok (.ifCond .lt 6, 3) := by decide +kernel
theorem dX3_manyShelved_18 : decode cX3_manyShelved 18 = .ok (.iinc 1 1, 3) := by decide +kernel
theorem dX3_manyShelved_21 : decode cX3_manyShelved 21 = .ok (.iinc 2 1, 3) := by decide +kernel
theorem dX3_manyShelved_24 : decode cX3_manyShelved 24 = .ok (.goto (-20), 3) := by decide +kernel
theorem dX3_manyShelved_27 : decode cX3_manyShelved 27 = .ok (.iload_n 1, 1) := by decide +kernel
theorem dX3_manyShelved_28 : decode cX3_manyShelved 28 = .ok (.ireturn, 1) := by decide +kernel
def fX3_manyShelved_L4 : Nat → St → Int32 → Int32 → (St → Int32 → Int32 → Option (St × Int32)) → Option (St × Int32)
  | 0, _, _, _, _ => none
  | n + 1, σ1, v2, v3, k => (if 3 ≤ v3 then k σ1 v2 v3 else rd LC σ1 40 v3 (fun x4 => pv (if x4 < 0 then v2 else (v2 + 1)) (fun (z6 : Int32) => fX3_manyShelved_L4 n σ1 z6 (v3 + 1) k)))
def fX3_manyShelved (σ : St) : Option (St × Int32) := fX3_manyShelved_L4 10000 σ 0 0 (fun σ7 v8 v9 => some (σ7, v8))
set_option maxHeartbeats 4000000 in
set_option maxRecDepth 100000 in
theorem ctX3_manyShelved (l : Launch) (g : GG) (σ : St) (σ' : St) (r : Int32) (hE : fX3_manyShelved σ  = some (σ', r)) : MI 52 entC l g yX3_manyShelved (Cond.code yX3_manyShelved cX3_manyShelved 3 (some .int) :: gtbl) (rmD 1) [.ref (g.2.1 24)] σ σ' r := by
  refine mi_i (own := RX3) (lv := [(0, .ref (g.2.1 24))]) (by decide) rfl (Nat.le_of_ble_eq_true rfl) rfl (fun p e s m below meth c ls args Q A H0 H locs C hK hA hQ hs hl => ?_)
  have hx := C.1
  have hb := C.2.1
  unfold fX3_manyShelved at hE
  refine lv_iconst (v := 0) hx hb dX3_manyShelved_0 (by decide) ?_
  refine lv_istore_n (lv' := [(1, .int 0), (0, .ref (g.2.1 24))]) hx hb dX3_manyShelved_1 rfl hl (by decide) rfl (fun ls hl => ?_)
  refine lv_iconst (v := 0) hx hb dX3_manyShelved_2 (by decide) ?_
  refine lv_istore_n (lv' := [(2, .int 0), (1, .int 0), (0, .ref (g.2.1 24))]) hx hb dX3_manyShelved_3 rfl hl (by decide) rfl (fun ls hl => ?_)
  have hL4 : ∀ (n : Nat) (σ1 : St) (v2 : Int32) (v3 : Int32) (k : St → Int32 → Int32 → Option (St × Int32)), fX3_manyShelved_L4 n σ1 v2 v3 k = some (σ', r) → (∀ (σ1 : St) (v2 : Int32) (v3 : Int32) (H : Heap) (locs : List Loc) (ls : Array Slot), HW 52 entC g A H0 H locs σ1 → lv_has ls 3 [(0, .ref (g.2.1 24)), (1, .int v2), (2, .int v3)] → k σ1 v2 v3 = some (σ', r) → W p l e (rmD 1) s m args below meth c H locs 0 0 Q (F0 m 27 ls [])) → ∀ (H : Heap) (locs : List Loc) (ls : Array Slot), HW 52 entC g A H0 H locs σ1 → lv_has ls 3 [(0, .ref (g.2.1 24)), (1, .int v2), (2, .int v3)] → W p l e (rmD 1) s m args below meth c H locs 0 0 Q (F0 m 4 ls []) := by
    intro n
    induction n with
    | zero =>
      intro σ1 v2 v3 k hE
      rw [fX3_manyShelved_L4] at hE
      exact no_e hE
    | succ n ih =>
      intro σ1 v2 v3 k hE hk H locs ls hs hl
      rw [fX3_manyShelved_L4] at hE
      refine lv_iload_n hx hb dX3_manyShelved_4 rfl (lv_at hl 2 rfl) ?_
      refine lv_iconst (v := 3) hx hb dX3_manyShelved_5 (by decide) ?_
      refine lv_icmp_ge (tgt := 27) hx hb dX3_manyShelved_6 (by decide) (fun hc => ?_) (fun hc => ?_)
      · have hE := if_t hc hE
        exact hk σ1 v2 v3 _ _ _ hs (lv_sub hl [0, 1, 2] rfl) hE
      · have hE := if_f hc hE
        refine lv_aload_n hx hb dX3_manyShelved_9 rfl (lv_at hl 0 rfl) ?_
        refine gf_X3_25_24 C hK hs dX3_manyShelved_10 ?_
        refine lv_iload_n hx hb dX3_manyShelved_13 rfl (lv_at hl 2 rfl) ?_
        obtain ⟨hi, x4, ex4, hE⟩ := rd_w hE
        refine y_ald layC C hK hs hi ex4 dX3_manyShelved_14 ?_
        refine pvw hE (fun k5 hE hk5 => ?_)
        have hJk5 : ∀ (z6 : Int32) (H : Heap) (locs : List Loc) (ls : Array Slot), HW 52 entC g A H0 H locs σ1 → lv_has ls 3 [(0, .ref (g.2.1 24)), (1, .int z6), (2, .int v3)] → k5 z6 = some (σ', r) → W p l e (rmD 1) s m args below meth c H locs 0 0 Q (F0 m 21 ls []) := by
          intro z6 H locs ls hs hl hE
          have hE := hk5 _ hE
          refine lv_iinc (v := v3 + 1) (lv' := [(2, .int (v3 + 1)), (0, .ref (g.2.1 24)), (1, .int z6)]) hx hb dX3_manyShelved_21 hl (k := 2) rfl rfl (by decide) rfl (fun ls hl => ?_)
          refine lv_goto (tgt := 4) hx hb dX3_manyShelved_24 (by decide) ?_
          exact ih _ _ _ _ hE hk _ _ _ hs (lv_sub hl [1, 2, 0] rfl)
        refine lv_if_lt (tgt := 21) hx hb dX3_manyShelved_15 (by decide) (fun hc => ?_) (fun hc => ?_)
        · have hE := pv_t hc hE
          exact hJk5 v2 _ _ _ hs (lv_sub hl [0, 1, 2] rfl) hE
        · have hE := pv_f hc hE
          refine lv_iinc (v := v2 + 1) (lv' := [(1, .int (v2 + 1)), (0, .ref (g.2.1 24)), (2, .int v3)]) hx hb dX3_manyShelved_18 hl (k := 1) rfl rfl (by decide) rfl (fun ls hl => ?_)
          exact hJk5 (v2 + 1) _ _ _ hs (lv_sub hl [1, 0, 2] rfl) hE
  refine hL4 _ _ _ _ _ hE (fun σ7 v8 v9 H locs ls hs hl hE => ?_) H locs ls hs (lv_sub hl [2, 1, 0] rfl)
  refine lv_iload_n hx hb dX3_manyShelved_27 rfl (lv_at hl 1 rfl) ?_
  exact hQ hs hE dX3_manyShelved_28
theorem dX3_shelve_0 : decode cX3_shelve 0 = .ok (.aload_n 0, 1) := by decide +kernel
theorem dX3_shelve_1 : decode cX3_shelve 1 = .ok (.getfield 16, 3) := by decide +kernel
theorem dX3_shelve_4 : decode cX3_shelve 4 = .ok (.iconst 0, 1) := by decide +kernel
theorem dX3_shelve_5 : decode cX3_shelve 5 = .ok (.aload_n 0, 1) := by decide +kernel
theorem dX3_shelve_6 : decode cX3_shelve 6 = .ok (.getfield 22, 3) := by decide +kernel
theorem dX3_shelve_9 : decode cX3_shelve 9 = .ok (.iload_n 1, 1) := by decide +kernel
theorem dX3_shelve_10 : decode cX3_shelve 10 = .ok (.aaload, 1) := by decide +kernel
theorem dX3_shelve_11 : decode cX3_shelve 11 = .ok (.iconst 0, 1) := by decide +kernel
theorem dX3_shelve_12 : decode cX3_shelve 12 = .ok (.aload_n 0, 1) := by decide +kernel
theorem dX3_shelve_13 : decode cX3_shelve 13 = .ok (.getfield 34, 3) := by decide +kernel
theorem dX3_shelve_16 : decode cX3_shelve 16 = .ok (.invokestatic 60, 3) := by decide +kernel
theorem dX3_shelve_19 : decode cX3_shelve 19 = .ok (.aload_n 0, 1) := by decide +kernel
theorem dX3_shelve_20 : decode cX3_shelve 20 = .ok (.getfield 25, 3) := by decide +kernel
theorem dX3_shelve_23 : decode cX3_shelve 23 = .ok (.iload_n 1, 1) := by decide +kernel
theorem dX3_shelve_24 : decode cX3_shelve 24 = .ok (.aload_n 0, 1) := by decide +kernel
theorem dX3_shelve_25 : decode cX3_shelve 25 = .ok (.getfield 34, 3) := by decide +kernel
theorem dX3_shelve_28 : decode cX3_shelve 28 = .ok (.iastore, 1) := by decide +kernel
theorem dX3_shelve_29 : decode cX3_shelve 29 = .ok (.return_, 1) := by decide +kernel
def fX3_shelve (σ : St) (p1 : Int32) : Option (St × Unit) := gd (inb p1 3) (gd (arrOk LC 35 (37 + p1.toNatClampNeg) 0 0 (σ.1 24 4)) (pt (sc σ (37 + p1.toNatClampNeg) (va_cpy (σ.1 35) (σ.1 (37 + p1.toNatClampNeg)) (Int32.toNatClampNeg 0) (Int32.toNatClampNeg 0) (Int32.toNatClampNeg (σ.1 24 4)))) (fun σ1 => wr LC σ1 40 p1 (σ1.1 24 4) (fun σ2 => some (σ2, ())))))
set_option maxHeartbeats 4000000 in
set_option maxRecDepth 100000 in
theorem ctX3_shelve (l : Launch) (g : GG) (σ : St) (p1 : Int32) (σ' : St) (r : Unit) (hE : fX3_shelve σ p1 = some (σ', r)) : MV 52 entC l g yX3_shelve (Cond.code yX3_shelve cX3_shelve 2 none :: gtbl) (rmD 1) [.ref (g.2.1 24), .int p1] σ σ' := by
  refine mi_v (own := RX3) (lv := [(0, .ref (g.2.1 24)), (1, .int p1)]) (by decide) rfl (Nat.le_of_ble_eq_true rfl) rfl (fun p e s m below meth c ls args Q A H0 H locs C hK hA hQ hs hl => ?_)
  have hx := C.1
  have hb := C.2.1
  unfold fX3_shelve at hE
  refine lv_aload_n hx hb dX3_shelve_0 rfl (lv_at hl 0 rfl) ?_
  refine gf_X3_16_24 C hK hs dX3_shelve_1 ?_
  refine lv_iconst (v := 0) hx hb dX3_shelve_4 (by decide) ?_
  refine lv_aload_n hx hb dX3_shelve_5 rfl (lv_at hl 0 rfl) ?_
  refine gf_X3_22_24 C hK hs dX3_shelve_6 ?_
  refine lv_iload_n hx hb dX3_shelve_9 rfl (lv_at hl 1 rfl) ?_
  obtain ⟨hi, hE⟩ := gd_e hE
  refine y_gld C hK hs 36 3 37 (by decide) rfl hi dX3_shelve_10 ?_
  refine lv_iconst (v := 0) hx hb dX3_shelve_11 (by decide) ?_
  refine lv_aload_n hx hb dX3_shelve_12 rfl (lv_at hl 0 rfl) ?_
  refine gf_X3_34_24 C hK hs dX3_shelve_13 ?_
  obtain ⟨hi, hE⟩ := gd_e hE
  obtain ⟨σ1, eσ1, hE⟩ := pt_w hE
  refine y_copy layC C hl.1 hK hs mw_663 hi eσ1 (Nat.le_of_ble_eq_true rfl) (Nat.le_of_ble_eq_true rfl) dX3_shelve_16 (fun H locs hs => ?_)
  refine lv_aload_n hx hb dX3_shelve_19 rfl (lv_at hl 0 rfl) ?_
  refine gf_X3_25_24 C hK hs dX3_shelve_20 ?_
  refine lv_iload_n hx hb dX3_shelve_23 rfl (lv_at hl 1 rfl) ?_
  refine lv_aload_n hx hb dX3_shelve_24 rfl (lv_at hl 0 rfl) ?_
  refine gf_X3_34_24 C hK hs dX3_shelve_25 ?_
  obtain ⟨hi, σ2, eσ2, hE⟩ := wr_w hE
  refine y_ast layC C hK hs hi eσ2 dX3_shelve_28 (fun H locs hs => ?_)
  exact hQ hs hE dX3_shelve_29
theorem dX3_takeBack_0 : decode cX3_takeBack 0 = .ok (.aload_n 0, 1) := by decide +kernel
theorem dX3_takeBack_1 : decode cX3_takeBack 1 = .ok (.getfield 22, 3) := by decide +kernel
theorem dX3_takeBack_4 : decode cX3_takeBack 4 = .ok (.iload_n 1, 1) := by decide +kernel
theorem dX3_takeBack_5 : decode cX3_takeBack 5 = .ok (.aaload, 1) := by decide +kernel
theorem dX3_takeBack_6 : decode cX3_takeBack 6 = .ok (.iconst 0, 1) := by decide +kernel
theorem dX3_takeBack_7 : decode cX3_takeBack 7 = .ok (.aload_n 0, 1) := by decide +kernel
theorem dX3_takeBack_8 : decode cX3_takeBack 8 = .ok (.getfield 16, 3) := by decide +kernel
theorem dX3_takeBack_11 : decode cX3_takeBack 11 = .ok (.iconst 0, 1) := by decide +kernel
theorem dX3_takeBack_12 : decode cX3_takeBack 12 = .ok (.aload_n 0, 1) := by decide +kernel
theorem dX3_takeBack_13 : decode cX3_takeBack 13 = .ok (.getfield 25, 3) := by decide +kernel
theorem dX3_takeBack_16 : decode cX3_takeBack 16 = .ok (.iload_n 1, 1) := by decide +kernel
theorem dX3_takeBack_17 : decode cX3_takeBack 17 = .ok (.iaload, 1) := by decide +kernel
theorem dX3_takeBack_18 : decode cX3_takeBack 18 = .ok (.invokestatic 60, 3) := by decide +kernel
theorem dX3_takeBack_21 : decode cX3_takeBack 21 = .ok (.aload_n 0, 1) := by decide +kernel
theorem dX3_takeBack_22 : decode cX3_takeBack 22 = .ok (.aload_n 0, 1) := by decide +kernel
theorem dX3_takeBack_23 : decode cX3_takeBack 23 = .ok (.getfield 25, 3) := by decide +kernel
theorem dX3_takeBack_26 : decode cX3_takeBack 26 = .ok (.iload_n 1, 1) := by decide +kernel
theorem dX3_takeBack_27 : decode cX3_takeBack 27 = .ok (.iaload, 1) := by decide +kernel
theorem dX3_takeBack_28 : decode cX3_takeBack 28 = .ok (.invokevirtual 66, 3) := by decide +kernel
theorem dX3_takeBack_31 : decode cX3_takeBack 31 = .ok (.return_, 1) := by decide +kernel
def fX3_takeBack (σ : St) (p1 : Int32) : Option (St × Unit) := gd (inb p1 3) (rd LC σ 40 p1 (fun x1 => gd (arrOk LC (37 + p1.toNatClampNeg) 35 0 0 x1) (pt (sc σ 35 (va_cpy (σ.1 (37 + p1.toNatClampNeg)) (σ.1 35) (Int32.toNatClampNeg 0) (Int32.toNatClampNeg 0) (Int32.toNatClampNeg x1))) (fun σ2 => rd LC σ2 40 p1 (fun x3 => cl (fX3_cutTo σ2 x3) (fun σ4 r5 => some (σ4, ())))))))
set_option maxHeartbeats 4000000 in
set_option maxRecDepth 100000 in
theorem ctX3_takeBack (l : Launch) (g : GG) (σ : St) (p1 : Int32) (σ' : St) (r : Unit) (hE : fX3_takeBack σ p1 = some (σ', r)) : MV 52 entC l g yX3_takeBack (Cond.code yX3_takeBack cX3_takeBack 2 none :: gtbl) (rmD 6) [.ref (g.2.1 24), .int p1] σ σ' := by
  refine mi_v (own := RX3) (lv := [(0, .ref (g.2.1 24)), (1, .int p1)]) (by decide) rfl (Nat.le_of_ble_eq_true rfl) rfl (fun p e s m below meth c ls args Q A H0 H locs C hK hA hQ hs hl => ?_)
  have hx := C.1
  have hb := C.2.1
  unfold fX3_takeBack at hE
  refine lv_aload_n hx hb dX3_takeBack_0 rfl (lv_at hl 0 rfl) ?_
  refine gf_X3_22_24 C hK hs dX3_takeBack_1 ?_
  refine lv_iload_n hx hb dX3_takeBack_4 rfl (lv_at hl 1 rfl) ?_
  obtain ⟨hi, hE⟩ := gd_e hE
  refine y_gld C hK hs 36 3 37 (by decide) rfl hi dX3_takeBack_5 ?_
  refine lv_iconst (v := 0) hx hb dX3_takeBack_6 (by decide) ?_
  refine lv_aload_n hx hb dX3_takeBack_7 rfl (lv_at hl 0 rfl) ?_
  refine gf_X3_16_24 C hK hs dX3_takeBack_8 ?_
  refine lv_iconst (v := 0) hx hb dX3_takeBack_11 (by decide) ?_
  refine lv_aload_n hx hb dX3_takeBack_12 rfl (lv_at hl 0 rfl) ?_
  refine gf_X3_25_24 C hK hs dX3_takeBack_13 ?_
  refine lv_iload_n hx hb dX3_takeBack_16 rfl (lv_at hl 1 rfl) ?_
  obtain ⟨hi, x1, ex1, hE⟩ := rd_w hE
  refine y_ald layC C hK hs hi ex1 dX3_takeBack_17 ?_
  obtain ⟨hi, hE⟩ := gd_e hE
  obtain ⟨σ2, eσ2, hE⟩ := pt_w hE
  refine y_copy layC C hl.1 hK hs mw_663 hi eσ2 (Nat.le_of_ble_eq_true rfl) (Nat.le_of_ble_eq_true rfl) dX3_takeBack_18 (fun H locs hs => ?_)
  refine lv_aload_n hx hb dX3_takeBack_21 rfl (lv_at hl 0 rfl) ?_
  refine lv_aload_n hx hb dX3_takeBack_22 rfl (lv_at hl 0 rfl) ?_
  refine gf_X3_25_24 C hK hs dX3_takeBack_23 ?_
  refine lv_iload_n hx hb dX3_takeBack_26 rfl (lv_at hl 1 rfl) ?_
  obtain ⟨hi, x3, ex3, hE⟩ := rd_w hE
  refine y_ald layC C hK hs hi ex3 dX3_takeBack_27 ?_
  obtain ⟨σ4, r5, hE1, hE⟩ := cl_e hE
  refine x_cvv (As := [.int x3]) (rest := []) C hl.1 hK hs hA ⟨Nat.le_refl 0, Nat.le_refl 0⟩ (ctX3_cutTo l g _ _ _ _ hE1) (cw_X3_66 C ⟨Nat.le_of_ble_eq_true rfl, Nat.le_of_ble_eq_true rfl⟩) (hs.recv hK 24 (by decide) rfl rfl) rfl rfl (Nat.le_of_ble_eq_true rfl) dX3_takeBack_28 (fun H locs hs => ?_)
  exact hQ hs hE dX3_takeBack_31
theorem dX4_look_0 : decode cX4_look 0 = .ok (.iconst 0, 1) := by decide +kernel
theorem dX4_look_1 : decode cX4_look 1 = .ok (.istore_n 3, 1) := by decide +kernel
theorem dX4_look_2 : decode cX4_look 2 = .ok (.iload_n 3, 1) := by decide +kernel
theorem dX4_look_3 : decode cX4_look 3 = .ok (.aload_n 1, 1) := by decide +kernel
theorem dX4_look_4 : decode cX4_look 4 = .ok (.getfield 26, 3) := by decide +kernel
theorem dX4_look_7 : decode cX4_look 7 = .ok (.getfield 32, 3) := by decide +kernel
theorem dX4_look_10 : decode cX4_look 10 = .ok (.if_icmp .ge 39, 3) := by decide +kernel
theorem dX4_look_13 : decode cX4_look 13 = .ok (.aload_n 0, 1) := by decide +kernel
theorem dX4_look_14 : decode cX4_look 14 = .ok (.getfield 11, 3) := by decide +kernel
theorem dX4_look_17 : decode cX4_look 17 = .ok (.iload_n 3, 1) := by decide +kernel
theorem dX4_look_18 : decode cX4_look 18 = .ok (.aload_n 1, 1) := by decide +kernel
theorem dX4_look_19 : decode cX4_look 19 = .ok (.getfield 26, 3) := by decide +kernel
theorem dX4_look_22 : decode cX4_look 22 = .ok (.iload_n 2, 1) := by decide +kernel
theorem dX4_look_23 : decode cX4_look 23 = .ok (.iload_n 3, 1) := by decide +kernel
theorem dX4_look_24 : decode cX4_look 24 = .ok (.invokevirtual 48, 3) := by decide +kernel
theorem dX4_look_27 : decode cX4_look 27 = .ok (.iastore, 1) := by decide +kernel
theorem dX4_look_28 : decode cX4_look 28 = .ok (.aload_n 0, 1) := by decide +kernel
theorem dX4_look_29 : decode cX4_look 29 = .ok (.getfield 17, 3) := by decide +kernel
theorem dX4_look_32 : decode cX4_look 32 = .ok (.iload_n 3, 1) := by decide +kernel
theorem dX4_look_33 : decode cX4_look 33 = .ok (.aload_n 1, 1) := by decide +kernel
theorem dX4_look_34 : decode cX4_look 34 = .ok (.getfield 26, 3) := by decide +kernel
theorem dX4_look_37 : decode cX4_look 37 = .ok (.iload_n 2, 1) := by decide +kernel
theorem dX4_look_38 : decode cX4_look 38 = .ok (.iload_n 3, 1) := by decide +kernel
theorem dX4_look_39 : decode cX4_look 39 = .ok (.invokevirtual 52, 3) := by decide +kernel
theorem dX4_look_42 : decode cX4_look 42 = .ok (.iastore, 1) := by decide +kernel
theorem dX4_look_43 : decode cX4_look 43 = .ok (.iinc 3 1, 3) := by decide +kernel
theorem dX4_look_46 : decode cX4_look 46 = .ok (.goto (-44), 3) := by decide +kernel
theorem dX4_look_49 : decode cX4_look 49 = .ok (.return_, 1) := by decide +kernel
def fX4_look_L2 (p2 : Int32) : Nat → St → Int32 → (St → Int32 → Option (St × Unit)) → Option (St × Unit)
  | 0, _, _, _ => none
  | n + 1, σ1, v2, k => (if (σ1.1 26 6) ≤ v2 then k σ1 v2 else cl (fX6_pays σ1 p2 v2) (fun σ3 r4 => wr LC σ3 42 v2 r4 (fun σ5 => cl (fX6_holds σ5 p2 v2) (fun σ6 r7 => wr LC σ6 43 v2 r7 (fun σ8 => fX4_look_L2 p2 n σ8 (v2 + 1) k)))))
def fX4_look (σ : St) (p2 : Int32) : Option (St × Unit) := fX4_look_L2 p2 10000 σ 0 (fun σ9 v10 => some (σ9, ()))
set_option maxHeartbeats 4000000 in
set_option maxRecDepth 100000 in
theorem ctX4_look (l : Launch) (g : GG) (σ : St) (p2 : Int32) (σ' : St) (r : Unit) (hE : fX4_look σ p2 = some (σ', r)) : MV 52 entC l g yX4_look (Cond.code yX4_look cX4_look 4 none :: gtbl) (rmD 3) [.ref (g.2.1 41), .ref (g.2.1 25), .int p2] σ σ' := by
  refine mi_v (own := RX4) (lv := [(0, .ref (g.2.1 41)), (1, .ref (g.2.1 25)), (2, .int p2)]) (by decide) rfl (Nat.le_of_ble_eq_true rfl) rfl (fun p e s m below meth c ls args Q A H0 H locs C hK hA hQ hs hl => ?_)
  have hx := C.1
  have hb := C.2.1
  unfold fX4_look at hE
  refine lv_iconst (v := 0) hx hb dX4_look_0 (by decide) ?_
  refine lv_istore_n (lv' := [(3, .int 0), (0, .ref (g.2.1 41)), (1, .ref (g.2.1 25)), (2, .int p2)]) hx hb dX4_look_1 rfl hl (by decide) rfl (fun ls hl => ?_)
  have hL2 : ∀ (n : Nat) (σ1 : St) (v2 : Int32) (k : St → Int32 → Option (St × Unit)), fX4_look_L2 p2 n σ1 v2 k = some (σ', r) → (∀ (σ1 : St) (v2 : Int32) (H : Heap) (locs : List Loc) (ls : Array Slot), HW 52 entC g A H0 H locs σ1 → lv_has ls 4 [(0, .ref (g.2.1 41)), (1, .ref (g.2.1 25)), (2, .int p2), (3, .int v2)] → k σ1 v2 = some (σ', r) → W p l e (rmD 3) s m args below meth c H locs 0 0 Q (F0 m 49 ls [])) → ∀ (H : Heap) (locs : List Loc) (ls : Array Slot), HW 52 entC g A H0 H locs σ1 → lv_has ls 4 [(0, .ref (g.2.1 41)), (1, .ref (g.2.1 25)), (2, .int p2), (3, .int v2)] → W p l e (rmD 3) s m args below meth c H locs 0 0 Q (F0 m 2 ls []) := by
    intro n
    induction n with
    | zero =>
      intro σ1 v2 k hE
      rw [fX4_look_L2] at hE
      exact no_e hE
    | succ n ih =>
      intro σ1 v2 k hE hk H locs ls hs hl
      rw [fX4_look_L2] at hE
      refine lv_iload_n hx hb dX4_look_2 rfl (lv_at hl 3 rfl) ?_
      refine lv_aload_n hx hb dX4_look_3 rfl (lv_at hl 1 rfl) ?_
      refine gf_X4_26_25 C hK hs dX4_look_4 ?_
      refine gf_X4_32_26 C hK hs dX4_look_7 ?_
      refine lv_icmp_ge (tgt := 49) hx hb dX4_look_10 (by decide) (fun hc => ?_) (fun hc => ?_)
      · have hE := if_t hc hE
        exact hk σ1 v2 _ _ _ hs (lv_sub hl [0, 1, 2, 3] rfl) hE
      · have hE := if_f hc hE
        refine lv_aload_n hx hb dX4_look_13 rfl (lv_at hl 0 rfl) ?_
        refine gf_X4_11_41 C hK hs dX4_look_14 ?_
        refine lv_iload_n hx hb dX4_look_17 rfl (lv_at hl 3 rfl) ?_
        refine lv_aload_n hx hb dX4_look_18 rfl (lv_at hl 1 rfl) ?_
        refine gf_X4_26_25 C hK hs dX4_look_19 ?_
        refine lv_iload_n hx hb dX4_look_22 rfl (lv_at hl 2 rfl) ?_
        refine lv_iload_n hx hb dX4_look_23 rfl (lv_at hl 3 rfl) ?_
        obtain ⟨σ3, r4, hE1, hE⟩ := cl_e hE
        refine x_civ (As := [.int p2, .int v2]) (rest := [.int v2, .ref (g.2.1 42)]) C hl.1 hK hs hA ⟨Nat.le_refl 0, Nat.le_refl 0⟩ (ctX6_pays l g _ _ _ _ _ hE1) (cw_X4_48 C ⟨Nat.le_of_ble_eq_true rfl, Nat.le_of_ble_eq_true rfl⟩) (hs.recv hK 26 (by decide) rfl rfl) rfl rfl (Nat.le_of_ble_eq_true rfl) dX4_look_24 (fun H locs hs => ?_)
        obtain ⟨hi, σ5, eσ5, hE⟩ := wr_w hE
        refine y_ast layC C hK hs hi eσ5 dX4_look_27 (fun H locs hs => ?_)
        refine lv_aload_n hx hb dX4_look_28 rfl (lv_at hl 0 rfl) ?_
        refine gf_X4_17_41 C hK hs dX4_look_29 ?_
        refine lv_iload_n hx hb dX4_look_32 rfl (lv_at hl 3 rfl) ?_
        refine lv_aload_n hx hb dX4_look_33 rfl (lv_at hl 1 rfl) ?_
        refine gf_X4_26_25 C hK hs dX4_look_34 ?_
        refine lv_iload_n hx hb dX4_look_37 rfl (lv_at hl 2 rfl) ?_
        refine lv_iload_n hx hb dX4_look_38 rfl (lv_at hl 3 rfl) ?_
        obtain ⟨σ6, r7, hE1, hE⟩ := cl_e hE
        refine x_civ (As := [.int p2, .int v2]) (rest := [.int v2, .ref (g.2.1 43)]) C hl.1 hK hs hA ⟨Nat.le_refl 0, Nat.le_refl 0⟩ (ctX6_holds l g _ _ _ _ _ hE1) (cw_X4_52 C ⟨Nat.le_of_ble_eq_true rfl, Nat.le_of_ble_eq_true rfl⟩) (hs.recv hK 26 (by decide) rfl rfl) rfl rfl (Nat.le_of_ble_eq_true rfl) dX4_look_39 (fun H locs hs => ?_)
        obtain ⟨hi, σ8, eσ8, hE⟩ := wr_w hE
        refine y_ast layC C hK hs hi eσ8 dX4_look_42 (fun H locs hs => ?_)
        refine lv_iinc (v := v2 + 1) (lv' := [(3, .int (v2 + 1)), (0, .ref (g.2.1 41)), (1, .ref (g.2.1 25)), (2, .int p2)]) hx hb dX4_look_43 hl (k := 3) rfl rfl (by decide) rfl (fun ls hl => ?_)
        refine lv_goto (tgt := 2) hx hb dX4_look_46 (by decide) ?_
        exact ih _ _ _ hE hk _ _ _ hs (lv_sub hl [1, 2, 3, 0] rfl)
  refine hL2 _ _ _ _ hE (fun σ9 v10 H locs ls hs hl hE => ?_) H locs ls hs (lv_sub hl [1, 2, 3, 0] rfl)
  exact hQ hs hE dX4_look_49
theorem dX4_isAhead_0 : decode cX4_isAhead 0 = .ok (.iload_n 1, 1) := by decide +kernel
theorem dX4_isAhead_1 : decode cX4_isAhead 1 = .ok (.tableswitch 80 0 2 #[27, 38, 59], 27) := by decide +kernel
theorem dX4_isAhead_28 : decode cX4_isAhead 28 = .ok (.iload_n 2, 1) := by decide +kernel
theorem dX4_isAhead_29 : decode cX4_isAhead 29 = .ok (.iload_n 3, 1) := by decide +kernel
theorem dX4_isAhead_30 : decode cX4_isAhead 30 = .ok (.if_icmp .ge 7, 3) := by decide +kernel
theorem dX4_isAhead_33 : decode cX4_isAhead 33 = .ok (.iconst 1, 1) := by decide +kernel
theorem dX4_isAhead_34 : decode cX4_isAhead 34 = .ok (.goto 4, 3) := by decide +kernel
theorem dX4_isAhead_37 : decode cX4_isAhead 37 = .ok (.iconst 0, 1) := by decide +kernel
theorem dX4_isAhead_38 : decode cX4_isAhead 38 = .ok (.ireturn, 1) := by decide +kernel
theorem dX4_isAhead_39 : decode cX4_isAhead 39 = .ok (.aload_n 0, 1) := by decide +kernel
theorem dX4_isAhead_40 : decode cX4_isAhead 40 = .ok (.getfield 11, 3) := by decide +kernel
theorem dX4_isAhead_43 : decode cX4_isAhead 43 = .ok (.iload_n 2, 1) := by decide +kernel
theorem dX4_isAhead_44 : decode cX4_isAhead 44 = .ok (.iaload, 1) := by decide +kernel
theorem dX4_isAhead_45 : decode cX4_isAhead 45 = .ok (.aload_n 0, 1) := by decide +kernel
theorem dX4_isAhead_46 : decode cX4_isAhead 46 = .ok (.getfield 11, 3) := by decide +kernel
theorem dX4_isAhead_49 : decode cX4_isAhead 49 = .ok (.iload_n 3, 1) := by decide +kernel
theorem dX4_isAhead_50 : decode cX4_isAhead 50 = .ok (.iaload, 1) := by decide +kernel
theorem dX4_isAhead_51 : decode cX4_isAhead 51 = .ok (.if_icmp .ge 7, 3) := by decide +kernel
theorem dX4_isAhead_54 : decode cX4_isAhead 54 = .ok (.iconst 1, 1) := by decide +kernel
theorem dX4_isAhead_55 : decode cX4_isAhead 55 = .ok (.goto 4, 3) := by decide +kernel
theorem dX4_isAhead_58 : decode cX4_isAhead 58 = .ok (.iconst 0, 1) := by decide +kernel
theorem dX4_isAhead_59 : decode cX4_isAhead 59 = .ok (.ireturn, 1) := by decide +kernel
theorem dX4_isAhead_60 : decode cX4_isAhead 60 = .ok (.aload_n 0, 1) := by decide +kernel
theorem dX4_isAhead_61 : decode cX4_isAhead 61 = .ok (.getfield 11, 3) := by decide +kernel
theorem dX4_isAhead_64 : decode cX4_isAhead 64 = .ok (.iload_n 2, 1) := by decide +kernel
theorem dX4_isAhead_65 : decode cX4_isAhead 65 = .ok (.iaload, 1) := by decide +kernel
theorem dX4_isAhead_66 : decode cX4_isAhead 66 = .ok (.aload_n 0, 1) := by decide +kernel
theorem dX4_isAhead_67 : decode cX4_isAhead 67 = .ok (.getfield 11, 3) := by decide +kernel
theorem dX4_isAhead_70 : decode cX4_isAhead 70 = .ok (.iload_n 3, 1) := by decide +kernel
theorem dX4_isAhead_71 : decode cX4_isAhead 71 = .ok (.iaload, 1) := by decide +kernel
theorem dX4_isAhead_72 : decode cX4_isAhead 72 = .ok (.if_icmp .le 7, 3) := by decide +kernel
theorem dX4_isAhead_75 : decode cX4_isAhead 75 = .ok (.iconst 1, 1) := by decide +kernel
theorem dX4_isAhead_76 : decode cX4_isAhead 76 = .ok (.goto 4, 3) := by decide +kernel
theorem dX4_isAhead_79 : decode cX4_isAhead 79 = .ok (.iconst 0, 1) := by decide +kernel
theorem dX4_isAhead_80 : decode cX4_isAhead 80 = .ok (.ireturn, 1) := by decide +kernel
theorem dX4_isAhead_81 : decode cX4_isAhead 81 = .ok (.aload_n 0, 1) := by decide +kernel
theorem dX4_isAhead_82 : decode cX4_isAhead 82 = .ok (.getfield 17, 3) := by decide +kernel
theorem dX4_isAhead_85 : decode cX4_isAhead 85 = .ok (.iload_n 2, 1) := by decide +kernel
theorem dX4_isAhead_86 : decode cX4_isAhead 86 = .ok (.iaload, 1) := by decide +kernel
theorem dX4_isAhead_87 : decode cX4_isAhead 87 = .ok (.aload_n 0, 1) := by decide +kernel
theorem dX4_isAhead_88 : decode cX4_isAhead 88 = .ok (.getfield 11, 3) := by decide +kernel
theorem dX4_isAhead_91 : decode cX4_isAhead 91 = .ok (.iload_n 3, 1) := by decide +kernel
theorem dX4_isAhead_92 : decode cX4_isAhead 92 = .ok (.iaload, 1) := by decide +kernel
theorem dX4_isAhead_93 : decode cX4_isAhead 93 = .ok (.imul, 1) := by decide +kernel
theorem dX4_isAhead_94 : decode cX4_isAhead 94 = .ok (.aload_n 0, 1) := by decide +kernel
theorem dX4_isAhead_95 : decode cX4_isAhead 95 = .ok (.getfield 17, 3) := by decide +kernel
theorem dX4_isAhead_98 : decode cX4_isAhead 98 = .ok (.iload_n 3, 1) := by decide +kernel
theorem dX4_isAhead_99 : decode cX4_isAhead 99 = .ok (.iaload, 1) := by decide +kernel
theorem dX4_isAhead_100 : decode cX4_isAhead 100 = .ok (.aload_n 0, 1) := by decide +kernel
theorem dX4_isAhead_101 : decode cX4_isAhead 101 = .ok (.getfield 11, 3) := by decide +kernel
theorem dX4_isAhead_104 : decode cX4_isAhead 104 = .ok (.iload_n 2, 1) := by decide +kernel
theorem dX4_isAhead_105 : decode cX4_isAhead 105 = .ok (.iaload, 1) := by decide +kernel
theorem dX4_isAhead_106 : decode cX4_isAhead 106 = .ok (.imul, 1) := by decide +kernel
theorem dX4_isAhead_107 : decode cX4_isAhead 107 = .ok (.if_icmp .le 7, 3) := by decide +kernel
theorem dX4_isAhead_110 : decode cX4_isAhead 110 = .ok (.iconst 1, 1) := by decide +kernel
theorem dX4_isAhead_111 : decode cX4_isAhead 111 = .ok (.goto 4, 3) := by decide +kernel
theorem dX4_isAhead_114 : decode cX4_isAhead 114 = .ok (.iconst 0, 1) := by decide +kernel
theorem dX4_isAhead_115 : decode cX4_isAhead 115 = .ok (.ireturn, 1) := by decide +kernel
def fX4_isAhead (σ : St) (p1 : Int32) (p2 : Int32) (p3 : Int32) : Option (St × Int32) := (if p1 = 0 then (if p3 ≤ p2 then some (σ, 0) else some (σ, 1)) else (if p1 = 1 then rd LC σ 42 p2 (fun x5 => rd LC σ 42 p3 (fun x6 => (if x6 ≤ x5 then some (σ, 0) else some (σ, 1)))) else (if p1 = 2 then rd LC σ 42 p2 (fun x7 => rd LC σ 42 p3 (fun x8 => (if x7 ≤ x8 then some (σ, 0) else some (σ, 1)))) else rd LC σ 43 p2 (fun x1 => rd LC σ 42 p3 (fun x2 => rd LC σ 43 p3 (fun x3 => rd LC σ 42 p2 (fun x4 => (if (x1 * x2) ≤ (x3 * x4) then some (σ, 0) else some (σ, 1)))))))))
set_option maxHeartbeats 4000000 in
set_option maxRecDepth 100000 in
theorem ctX4_isAhead (l : Launch) (g : GG) (σ : St) (p1 : Int32) (p2 : Int32) (p3 : Int32) (σ' : St) (r : Int32) (hE : fX4_isAhead σ p1 p2 p3 = some (σ', r)) : MI 52 entC l g yX4_isAhead (Cond.code yX4_isAhead cX4_isAhead 4 (some .boolean) :: gtbl) (rmD 1) [.ref (g.2.1 41), .int p1, .int p2, .int p3] σ σ' r := by
  refine mi_z (own := RX4) (lv := [(0, .ref (g.2.1 41)), (1, .int p1), (2, .int p2), (3, .int p3)]) (by decide) rfl (Nat.le_of_ble_eq_true rfl) rfl (fun p e s m below meth c ls args Q A H0 H locs C hK hA hQ hs hl => ?_)
  have hx := C.1
  have hb := C.2.1
  unfold fX4_isAhead at hE
  refine lv_iload_n hx hb dX4_isAhead_0 rfl (lv_at hl 1 rfl) ?_
  by_cases hn0 : p1 = 0
  · have hE := if_t hn0 hE
    refine lv_tableIn (off := 27) (tgt := 28) hx hb dX4_isAhead_1 (by rw [hn0]; decide) (by rw [hn0]; decide) (by rw [hn0]; decide) (by decide) ?_
    refine lv_iload_n hx hb dX4_isAhead_28 rfl (lv_at hl 2 rfl) ?_
    refine lv_iload_n hx hb dX4_isAhead_29 rfl (lv_at hl 3 rfl) ?_
    refine lv_icmp_ge (tgt := 37) hx hb dX4_isAhead_30 (by decide) (fun hc => ?_) (fun hc => ?_)
    · have hE := if_t hc hE
      refine lv_iconst (v := 0) hx hb dX4_isAhead_37 (by decide) ?_
      exact hQ hs rfl hE dX4_isAhead_38
    · have hE := if_f hc hE
      refine lv_iconst (v := 1) hx hb dX4_isAhead_33 (by decide) ?_
      refine lv_goto (tgt := 38) hx hb dX4_isAhead_34 (by decide) ?_
      exact hQ hs rfl hE dX4_isAhead_38
  have hE := if_f hn0 hE
  by_cases hn1 : p1 = 1
  · have hE := if_t hn1 hE
    refine lv_tableIn (off := 38) (tgt := 39) hx hb dX4_isAhead_1 (by rw [hn1]; decide) (by rw [hn1]; decide) (by rw [hn1]; decide) (by decide) ?_
    refine lv_aload_n hx hb dX4_isAhead_39 rfl (lv_at hl 0 rfl) ?_
    refine gf_X4_11_41 C hK hs dX4_isAhead_40 ?_
    refine lv_iload_n hx hb dX4_isAhead_43 rfl (lv_at hl 2 rfl) ?_
    obtain ⟨hi, x5, ex5, hE⟩ := rd_w hE
    refine y_ald layC C hK hs hi ex5 dX4_isAhead_44 ?_
    refine lv_aload_n hx hb dX4_isAhead_45 rfl (lv_at hl 0 rfl) ?_
    refine gf_X4_11_41 C hK hs dX4_isAhead_46 ?_
    refine lv_iload_n hx hb dX4_isAhead_49 rfl (lv_at hl 3 rfl) ?_
    obtain ⟨hi, x6, ex6, hE⟩ := rd_w hE
    refine y_ald layC C hK hs hi ex6 dX4_isAhead_50 ?_
    refine lv_icmp_ge (tgt := 58) hx hb dX4_isAhead_51 (by decide) (fun hc => ?_) (fun hc => ?_)
    · have hE := if_t hc hE
      refine lv_iconst (v := 0) hx hb dX4_isAhead_58 (by decide) ?_
      exact hQ hs rfl hE dX4_isAhead_59
    · have hE := if_f hc hE
      refine lv_iconst (v := 1) hx hb dX4_isAhead_54 (by decide) ?_
      refine lv_goto (tgt := 59) hx hb dX4_isAhead_55 (by decide) ?_
      exact hQ hs rfl hE dX4_isAhead_59
  have hE := if_f hn1 hE
  by_cases hn2 : p1 = 2
  · have hE := if_t hn2 hE
    refine lv_tableIn (off := 59) (tgt := 60) hx hb dX4_isAhead_1 (by rw [hn2]; decide) (by rw [hn2]; decide) (by rw [hn2]; decide) (by decide) ?_
    refine lv_aload_n hx hb dX4_isAhead_60 rfl (lv_at hl 0 rfl) ?_
    refine gf_X4_11_41 C hK hs dX4_isAhead_61 ?_
    refine lv_iload_n hx hb dX4_isAhead_64 rfl (lv_at hl 2 rfl) ?_
    obtain ⟨hi, x7, ex7, hE⟩ := rd_w hE
    refine y_ald layC C hK hs hi ex7 dX4_isAhead_65 ?_
    refine lv_aload_n hx hb dX4_isAhead_66 rfl (lv_at hl 0 rfl) ?_
    refine gf_X4_11_41 C hK hs dX4_isAhead_67 ?_
    refine lv_iload_n hx hb dX4_isAhead_70 rfl (lv_at hl 3 rfl) ?_
    obtain ⟨hi, x8, ex8, hE⟩ := rd_w hE
    refine y_ald layC C hK hs hi ex8 dX4_isAhead_71 ?_
    refine lv_icmp_le (tgt := 79) hx hb dX4_isAhead_72 (by decide) (fun hc => ?_) (fun hc => ?_)
    · have hE := if_t hc hE
      refine lv_iconst (v := 0) hx hb dX4_isAhead_79 (by decide) ?_
      exact hQ hs rfl hE dX4_isAhead_80
    · have hE := if_f hc hE
      refine lv_iconst (v := 1) hx hb dX4_isAhead_75 (by decide) ?_
      refine lv_goto (tgt := 80) hx hb dX4_isAhead_76 (by decide) ?_
      exact hQ hs rfl hE dX4_isAhead_80
  have hE := if_f hn2 hE
  have hDf : W p l e (rmD 1) s m args below meth c H locs 0 0 Q (F0 m 81 ls []) := by
    refine lv_aload_n hx hb dX4_isAhead_81 rfl (lv_at hl 0 rfl) ?_
    refine gf_X4_17_41 C hK hs dX4_isAhead_82 ?_
    refine lv_iload_n hx hb dX4_isAhead_85 rfl (lv_at hl 2 rfl) ?_
    obtain ⟨hi, x1, ex1, hE⟩ := rd_w hE
    refine y_ald layC C hK hs hi ex1 dX4_isAhead_86 ?_
    refine lv_aload_n hx hb dX4_isAhead_87 rfl (lv_at hl 0 rfl) ?_
    refine gf_X4_11_41 C hK hs dX4_isAhead_88 ?_
    refine lv_iload_n hx hb dX4_isAhead_91 rfl (lv_at hl 3 rfl) ?_
    obtain ⟨hi, x2, ex2, hE⟩ := rd_w hE
    refine y_ald layC C hK hs hi ex2 dX4_isAhead_92 ?_
    refine lv_imul hx hb dX4_isAhead_93 ?_
    refine lv_aload_n hx hb dX4_isAhead_94 rfl (lv_at hl 0 rfl) ?_
    refine gf_X4_17_41 C hK hs dX4_isAhead_95 ?_
    refine lv_iload_n hx hb dX4_isAhead_98 rfl (lv_at hl 3 rfl) ?_
    obtain ⟨hi, x3, ex3, hE⟩ := rd_w hE
    refine y_ald layC C hK hs hi ex3 dX4_isAhead_99 ?_
    refine lv_aload_n hx hb dX4_isAhead_100 rfl (lv_at hl 0 rfl) ?_
    refine gf_X4_11_41 C hK hs dX4_isAhead_101 ?_
    refine lv_iload_n hx hb dX4_isAhead_104 rfl (lv_at hl 2 rfl) ?_
    obtain ⟨hi, x4, ex4, hE⟩ := rd_w hE
    refine y_ald layC C hK hs hi ex4 dX4_isAhead_105 ?_
    refine lv_imul hx hb dX4_isAhead_106 ?_
    refine lv_icmp_le (tgt := 114) hx hb dX4_isAhead_107 (by decide) (fun hc => ?_) (fun hc => ?_)
    · have hE := if_t hc hE
      refine lv_iconst (v := 0) hx hb dX4_isAhead_114 (by decide) ?_
      exact hQ hs rfl hE dX4_isAhead_115
    · have hE := if_f hc hE
      refine lv_iconst (v := 1) hx hb dX4_isAhead_110 (by decide) ?_
      refine lv_goto (tgt := 115) hx hb dX4_isAhead_111 (by decide) ?_
      exact hQ hs rfl hE dX4_isAhead_115
  exact lv_tableOut (tgt := 81) hx hb dX4_isAhead_1 (by have q0 := sw_n 0 hn0 (by decide); have q1 := sw_n 1 hn1 (by decide); have q2 := sw_n 2 hn2 (by decide); omega) (by decide) hDf
theorem dX4_pick_0 : decode cX4_pick 0 = .ok (.iconst (-1), 1) := by decide +kernel
theorem dX4_pick_1 : decode cX4_pick 1 = .ok (.istore 4, 2) := by decide +kernel
theorem dX4_pick_3 : decode cX4_pick 3 = .ok (.iconst 0, 1) := by decide +kernel
theorem dX4_pick_4 : decode cX4_pick 4 = .ok (.istore 5, 2) := by decide +kernel
theorem dX4_pick_6 : decode cX4_pick 6 = .ok (.iload 5, 2) := by decide +kernel
theorem dX4_pick_8 : decode cX4_pick 8 = .ok (.iload_n 1, 1) := by decide +kernel
theorem dX4_pick_9 : decode cX4_pick 9 = .ok (.if_icmp .ge 51, 3) := by decide +kernel
theorem dX4_pick_12 : decode cX4_pick 12 = .ok (.iload_n 3, 1) := by decide +kernel
theorem dX4_pick_13 : decode cX4_pick 13 = .ok (.iload 5, 2) := by decide +kernel
theorem dX4_pick_15 : decode cX4_pick 15 = .ok (.ishr, 1) := by decide +kernel
theorem dX4_pick_16 : decode cX4_pick 16 = .ok (.iconst 1, 1) := by decide +kernel
theorem dX4_pick_17 : decode cX4_pick 17 = .ok (.iand, 1) := by decide +kernel
theorem dX4_pick_18 : decode cX4_pick 18 = .ok (.ifCond .ne 7, 3) := by decide +kernel
theorem dX4_pick_21 : decode cX4_pick 21 = .ok (.iconst 1, 1) := by decide +kernel
theorem dX4_pick_22 : decode cX4_pick 22 = .ok (.goto 4, 3) := by decide +kernel
theorem dX4_pick_25 : decode cX4_pick 25 = .ok (.iconst 0, 1) := by decide +kernel
theorem dX4_pick_26 : decode cX4_pick 26 = .ok (.istore 6, 2) := by decide +kernel
theorem dX4_pick_28 : decode cX4_pick 28 = .ok (.iload 6, 2) := by decide +kernel
theorem dX4_pick_30 : decode cX4_pick 30 = .ok (.ifCond .eq 24, 3) := by decide +kernel
theorem dX4_pick_33 : decode cX4_pick 33 = .ok (.iload 4, 2) := by decide +kernel
theorem dX4_pick_35 : decode cX4_pick 35 = .ok (.ifCond .lt 15, 3) := by decide +kernel
theorem dX4_pick_38 : decode cX4_pick 38 = .ok (.aload_n 0, 1) := by decide +kernel
theorem dX4_pick_39 : decode cX4_pick 39 = .ok (.iload_n 2, 1) := by decide +kernel
theorem dX4_pick_40 : decode cX4_pick 40 = .ok (.iload 5, 2) := by decide +kernel
theorem dX4_pick_42 : decode cX4_pick 42 = .ok (.iload 4, 2) := by decide +kernel
theorem dX4_pick_44 : decode cX4_pick 44 = .ok (.invokevirtual 55, 3) := by decide +kernel
theorem dX4_pick_47 : decode cX4_pick 47 = .ok (.ifCond .eq 7, 3) := by decide +kernel
theorem dX4_pick_50 : decode cX4_pick 50 = .ok (.iload 5, 2) := by decide +kernel
theorem dX4_pick_52 : decode cX4_pick 52 = .ok (.istore 4, 2) := by decide +kernel
theorem dX4_pick_54 : decode cX4_pick 54 = .ok (.iinc 5 1, 3) := by decide +kernel
theorem dX4_pick_57 : decode cX4_pick 57 = .ok (.goto (-51), 3) := by decide +kernel
theorem dX4_pick_60 : decode cX4_pick 60 = .ok (.iconst 0, 1) := by decide +kernel
theorem dX4_pick_61 : decode cX4_pick 61 = .ok (.iload 4, 2) := by decide +kernel
theorem dX4_pick_63 : decode cX4_pick 63 = .ok (.invokestatic 59, 3) := by decide +kernel
theorem dX4_pick_66 : decode cX4_pick 66 = .ok (.ireturn, 1) := by decide +kernel
def fX4_pick_L6 (p1 : Int32) (p2 : Int32) (p3 : Int32) : Nat → St → Int32 → Int32 → (St → Int32 → Int32 → Option (St × Int32)) → Option (St × Int32)
  | 0, _, _, _, _ => none
  | n + 1, σ1, v2, v3, k => (if p1 ≤ v3 then k σ1 v2 v3 else pv (if ((p3 >>> (v3 &&& 31)) &&& 1) = 0 then 1 else 0) (fun (y5 : Int32) => jn (fun (σ7 : St) (z8 : Int32) => fX4_pick_L6 p1 p2 p3 n σ7 z8 (v3 + 1) k) (fun k6 => (if y5 = 0 then k6 σ1 v2 else jn (fun (σ10 : St) => k6 σ10 v3) (fun k9 => (if v2 < 0 then k9 σ1 else cl (fX4_isAhead σ1 p2 v3 v2) (fun σ11 r12 => (if r12 = 0 then k6 σ11 v2 else k9 σ11))))))))
def fX4_pick (σ : St) (p1 : Int32) (p2 : Int32) (p3 : Int32) : Option (St × Int32) := fX4_pick_L6 p1 p2 p3 10000 σ (-1) 0 (fun σ13 v14 v15 => some (σ13, (if 0 < v14 then v14 else 0)))
set_option maxHeartbeats 4000000 in
set_option maxRecDepth 100000 in
theorem ctX4_pick (l : Launch) (g : GG) (σ : St) (p1 : Int32) (p2 : Int32) (p3 : Int32) (σ' : St) (r : Int32) (hE : fX4_pick σ p1 p2 p3 = some (σ', r)) : MI 52 entC l g yX4_pick (Cond.code yX4_pick cX4_pick 7 (some .int) :: gtbl) (rmD 2) [.ref (g.2.1 41), .int p1, .int p2, .int p3] σ σ' r := by
  refine mi_i (own := RX4) (lv := [(0, .ref (g.2.1 41)), (1, .int p1), (2, .int p2), (3, .int p3)]) (by decide) rfl (Nat.le_of_ble_eq_true rfl) rfl (fun p e s m below meth c ls args Q A H0 H locs C hK hA hQ hs hl => ?_)
  have hx := C.1
  have hb := C.2.1
  unfold fX4_pick at hE
  refine lv_iconst (v := (-1)) hx hb dX4_pick_0 (by decide) ?_
  refine lv_istore (lv' := [(4, .int (-1)), (0, .ref (g.2.1 41)), (1, .int p1), (2, .int p2), (3, .int p3)]) hx hb dX4_pick_1 hl (by decide) rfl (fun ls hl => ?_)
  refine lv_iconst (v := 0) hx hb dX4_pick_3 (by decide) ?_
  refine lv_istore (lv' := [(5, .int 0), (4, .int (-1)), (0, .ref (g.2.1 41)), (1, .int p1), (2, .int p2), (3, .int p3)]) hx hb dX4_pick_4 hl (by decide) rfl (fun ls hl => ?_)
  have hL6 : ∀ (n : Nat) (σ1 : St) (v2 : Int32) (v3 : Int32) (k : St → Int32 → Int32 → Option (St × Int32)), fX4_pick_L6 p1 p2 p3 n σ1 v2 v3 k = some (σ', r) → (∀ (σ1 : St) (v2 : Int32) (v3 : Int32) (H : Heap) (locs : List Loc) (ls : Array Slot), HW 52 entC g A H0 H locs σ1 → lv_has ls 7 [(0, .ref (g.2.1 41)), (1, .int p1), (2, .int p2), (3, .int p3), (4, .int v2), (5, .int v3)] → k σ1 v2 v3 = some (σ', r) → W p l e (rmD 2) s m args below meth c H locs 0 0 Q (F0 m 60 ls [])) → ∀ (H : Heap) (locs : List Loc) (ls : Array Slot), HW 52 entC g A H0 H locs σ1 → lv_has ls 7 [(0, .ref (g.2.1 41)), (1, .int p1), (2, .int p2), (3, .int p3), (4, .int v2), (5, .int v3)] → W p l e (rmD 2) s m args below meth c H locs 0 0 Q (F0 m 6 ls []) := by
    intro n
    induction n with
    | zero =>
      intro σ1 v2 v3 k hE
      rw [fX4_pick_L6] at hE
      exact no_e hE
    | succ n ih =>
      intro σ1 v2 v3 k hE hk H locs ls hs hl
      rw [fX4_pick_L6] at hE
      refine lv_iload hx hb dX4_pick_6 (lv_at hl 5 rfl) ?_
      refine lv_iload_n hx hb dX4_pick_8 rfl (lv_at hl 1 rfl) ?_
      refine lv_icmp_ge (tgt := 60) hx hb dX4_pick_9 (by decide) (fun hc => ?_) (fun hc => ?_)
      · have hE := if_t hc hE
        exact hk σ1 v2 v3 _ _ _ hs (lv_sub hl [0, 1, 2, 3, 4, 5] rfl) hE
      · have hE := if_f hc hE
        refine lv_iload_n hx hb dX4_pick_12 rfl (lv_at hl 3 rfl) ?_
        refine lv_iload hx hb dX4_pick_13 (lv_at hl 5 rfl) ?_
        refine lv_ishr hx hb dX4_pick_15 ?_
        refine lv_iconst (v := 1) hx hb dX4_pick_16 (by decide) ?_
        refine lv_iand hx hb dX4_pick_17 ?_
        refine pvw hE (fun k4 hE hk4 => ?_)
        have hJk4 : ∀ (y5 : Int32) (H : Heap) (locs : List Loc) (ls : Array Slot), HW 52 entC g A H0 H locs σ1 → lv_has ls 7 [(0, .ref (g.2.1 41)), (1, .int p1), (2, .int p2), (3, .int p3), (4, .int v2), (5, .int v3)] → k4 y5 = some (σ', r) → W p l e (rmD 2) s m args below meth c H locs 0 0 Q (F0 m 26 ls [.int y5]) := by
          intro y5 H locs ls hs hl hE
          have hE := hk4 _ hE
          refine lv_istore (lv' := [(6, .int y5), (0, .ref (g.2.1 41)), (1, .int p1), (2, .int p2), (3, .int p3), (4, .int v2), (5, .int v3)]) hx hb dX4_pick_26 hl (by decide) rfl (fun ls hl => ?_)
          refine lv_iload hx hb dX4_pick_28 (lv_at hl 0 rfl) ?_
          refine jn2 hE (fun k6 hE hk6 => ?_)
          have hJk6 : ∀ (σ7 : St) (z8 : Int32) (H : Heap) (locs : List Loc) (ls : Array Slot), HW 52 entC g A H0 H locs σ7 → lv_has ls 7 [(0, .ref (g.2.1 41)), (1, .int p1), (2, .int p2), (3, .int p3), (4, .int z8), (5, .int v3)] → k6 σ7 z8 = some (σ', r) → W p l e (rmD 2) s m args below meth c H locs 0 0 Q (F0 m 54 ls []) := by
            intro σ7 z8 H locs ls hs hl hE
            have hE := hk6 _ _ hE
            refine lv_iinc (v := v3 + 1) (lv' := [(5, .int (v3 + 1)), (0, .ref (g.2.1 41)), (1, .int p1), (2, .int p2), (3, .int p3), (4, .int z8)]) hx hb dX4_pick_54 hl (k := 5) rfl rfl (by decide) rfl (fun ls hl => ?_)
            refine lv_goto (tgt := 6) hx hb dX4_pick_57 (by decide) ?_
            exact ih _ _ _ _ hE hk _ _ _ hs (lv_sub hl [1, 2, 3, 4, 5, 0] rfl)
          refine lv_if_eq (tgt := 54) hx hb dX4_pick_30 (by decide) (fun hc => ?_) (fun hc => ?_)
          · have hE := if_t hc hE
            exact hJk6 σ1 v2 _ _ _ hs (lv_sub hl [1, 2, 3, 4, 5, 6] rfl) hE
          · have hE := if_f hc hE
            refine lv_iload hx hb dX4_pick_33 (lv_at hl 5 rfl) ?_
            refine jn1 hE (fun k9 hE hk9 => ?_)
            have hJk9 : ∀ (σ10 : St) (H : Heap) (locs : List Loc) (ls : Array Slot), HW 52 entC g A H0 H locs σ10 → lv_has ls 7 [(0, .ref (g.2.1 41)), (1, .int p1), (2, .int p2), (3, .int p3), (5, .int v3)] → k9 σ10 = some (σ', r) → W p l e (rmD 2) s m args below meth c H locs 0 0 Q (F0 m 50 ls []) := by
              intro σ10 H locs ls hs hl hE
              have hE := hk9 _ hE
              refine lv_iload hx hb dX4_pick_50 (lv_at hl 4 rfl) ?_
              refine lv_istore (lv' := [(4, .int v3), (0, .ref (g.2.1 41)), (1, .int p1), (2, .int p2), (3, .int p3), (5, .int v3)]) hx hb dX4_pick_52 hl (by decide) rfl (fun ls hl => ?_)
              exact hJk6 σ10 v3 _ _ _ hs (lv_sub hl [1, 2, 3, 4, 0, 5] rfl) hE
            refine lv_if_lt (tgt := 50) hx hb dX4_pick_35 (by decide) (fun hc => ?_) (fun hc => ?_)
            · have hE := if_t hc hE
              exact hJk9 σ1 _ _ _ hs (lv_sub hl [1, 2, 3, 4, 6] rfl) hE
            · have hE := if_f hc hE
              refine lv_aload_n hx hb dX4_pick_38 rfl (lv_at hl 1 rfl) ?_
              refine lv_iload_n hx hb dX4_pick_39 rfl (lv_at hl 3 rfl) ?_
              refine lv_iload hx hb dX4_pick_40 (lv_at hl 6 rfl) ?_
              refine lv_iload hx hb dX4_pick_42 (lv_at hl 5 rfl) ?_
              obtain ⟨σ11, r12, hE1, hE⟩ := cl_e hE
              refine x_civ (As := [.int p2, .int v3, .int v2]) (rest := []) C hl.1 hK hs hA ⟨Nat.le_refl 0, Nat.le_refl 0⟩ (ctX4_isAhead l g _ _ _ _ _ _ hE1) (cw_X4_55 C ⟨Nat.le_of_ble_eq_true rfl, Nat.le_of_ble_eq_true rfl⟩) (hs.recv hK 41 (by decide) rfl rfl) rfl rfl (Nat.le_of_ble_eq_true rfl) dX4_pick_44 (fun H locs hs => ?_)
              refine lv_if_eq (tgt := 54) hx hb dX4_pick_47 (by decide) (fun hc => ?_) (fun hc => ?_)
              · have hE := if_t hc hE
                exact hJk6 σ11 v2 _ _ _ hs (lv_sub hl [1, 2, 3, 4, 5, 6] rfl) hE
              · have hE := if_f hc hE
                exact hJk9 σ11 _ _ _ hs (lv_sub hl [1, 2, 3, 4, 6] rfl) hE
        refine lv_if_ne (tgt := 25) hx hb dX4_pick_18 (by decide) (fun hc => ?_) (fun hc => ?_)
        · have hE := pv_f hc hE
          refine lv_iconst (v := 0) hx hb dX4_pick_25 (by decide) ?_
          exact hJk4 0 _ _ _ hs (lv_sub hl [0, 1, 2, 3, 4, 5] rfl) hE
        · have hE := pv_t hc hE
          refine lv_iconst (v := 1) hx hb dX4_pick_21 (by decide) ?_
          refine lv_goto (tgt := 26) hx hb dX4_pick_22 (by decide) ?_
          exact hJk4 1 _ _ _ hs (lv_sub hl [0, 1, 2, 3, 4, 5] rfl) hE
  refine hL6 _ _ _ _ _ hE (fun σ13 v14 v15 H locs ls hs hl hE => ?_) H locs ls hs (lv_sub hl [2, 3, 4, 5, 1, 0] rfl)
  refine lv_iconst (v := 0) hx hb dX4_pick_60 (by decide) ?_
  refine lv_iload hx hb dX4_pick_61 (lv_at hl 4 rfl) ?_
  refine va_mmax hx hb (C.2.2.1.trans hl.1.symm) C.2.2.2.1 (C.2.2.2.2 _ mw_745) (C.2.2.2.2 _ mw_77) (C.2.2.2.2 _ mw_48) (C.2.2.2.2 _ mw_78) (Nat.le_of_ble_eq_true rfl) (Nat.le_of_ble_eq_true rfl) (Nat.le_refl 0) (Nat.le_refl 0) dX4_pick_63 ?_
  exact hQ hs hE dX4_pick_66
theorem dX9_has_0 : decode cX9_has 0 = .ok (.aload_n 0, 1) := by decide +kernel
theorem dX9_has_1 : decode cX9_has 1 = .ok (.getfield 20, 3) := by decide +kernel
theorem dX9_has_4 : decode cX9_has 4 = .ok (.iload_n 1, 1) := by decide +kernel
theorem dX9_has_5 : decode cX9_has 5 = .ok (.iload_n 2, 1) := by decide +kernel
theorem dX9_has_6 : decode cX9_has 6 = .ok (.invokestatic 42, 3) := by decide +kernel
theorem dX9_has_9 : decode cX9_has 9 = .ok (.iaload, 1) := by decide +kernel
theorem dX9_has_10 : decode cX9_has 10 = .ok (.ifCond .eq 7, 3) := by decide +kernel
theorem dX9_has_13 : decode cX9_has 13 = .ok (.iconst 1, 1) := by decide +kernel
theorem dX9_has_14 : decode cX9_has 14 = .ok (.goto 4, 3) := by decide +kernel
theorem dX9_has_17 : decode cX9_has 17 = .ok (.iconst 0, 1) := by decide +kernel
theorem dX9_has_18 : decode cX9_has 18 = .ok (.ireturn, 1) := by decide +kernel
def fX9_has (σ : St) (p1 : Int32) (p2 : Int32) : Option (St × Int32) := cl (fX9_slot σ p1 p2) (fun σ1 r2 => rd LC σ1 34 r2 (fun x3 => (if x3 = 0 then some (σ1, 0) else some (σ1, 1))))
set_option maxHeartbeats 4000000 in
set_option maxRecDepth 100000 in
theorem ctX9_has (l : Launch) (g : GG) (σ : St) (p1 : Int32) (p2 : Int32) (σ' : St) (r : Int32) (hE : fX9_has σ p1 p2 = some (σ', r)) : MI 52 entC l g yX9_has (Cond.code yX9_has cX9_has 3 (some .boolean) :: gtbl) (rmD 2) [.ref (g.2.1 25), .int p1, .int p2] σ σ' r := by
  refine mi_z (own := RX9) (lv := [(0, .ref (g.2.1 25)), (1, .int p1), (2, .int p2)]) (by decide) rfl (Nat.le_of_ble_eq_true rfl) rfl (fun p e s m below meth c ls args Q A H0 H locs C hK hA hQ hs hl => ?_)
  have hx := C.1
  have hb := C.2.1
  unfold fX9_has at hE
  refine lv_aload_n hx hb dX9_has_0 rfl (lv_at hl 0 rfl) ?_
  refine gf_X9_20_25 C hK hs dX9_has_1 ?_
  refine lv_iload_n hx hb dX9_has_4 rfl (lv_at hl 1 rfl) ?_
  refine lv_iload_n hx hb dX9_has_5 rfl (lv_at hl 2 rfl) ?_
  obtain ⟨σ1, r2, hE1, hE⟩ := cl_e hE
  refine x_cis (As := [.int p1, .int p2]) (rest := [.ref (g.2.1 34)]) C hl.1 hK hs hA ⟨Nat.le_refl 0, Nat.le_refl 0⟩ (ctX9_slot l g _ _ _ _ _ hE1) (cw_X9_42 C ⟨Nat.le_of_ble_eq_true rfl, Nat.le_of_ble_eq_true rfl⟩) rfl rfl (Nat.le_of_ble_eq_true rfl) dX9_has_6 (fun H locs hs => ?_)
  obtain ⟨hi, x3, ex3, hE⟩ := rd_w hE
  refine y_ald layC C hK hs hi ex3 dX9_has_9 ?_
  refine lv_if_eq (tgt := 17) hx hb dX9_has_10 (by decide) (fun hc => ?_) (fun hc => ?_)
  · have hE := if_t hc hE
    refine lv_iconst (v := 0) hx hb dX9_has_17 (by decide) ?_
    exact hQ hs rfl hE dX9_has_18
  · have hE := if_f hc hE
    refine lv_iconst (v := 1) hx hb dX9_has_13 (by decide) ?_
    refine lv_goto (tgt := 18) hx hb dX9_has_14 (by decide) ?_
    exact hQ hs rfl hE dX9_has_18
theorem dX4_basket_0 : decode cX4_basket 0 = .ok (.aload_n 1, 1) := by decide +kernel
theorem dX4_basket_1 : decode cX4_basket 1 = .ok (.getfield 26, 3) := by decide +kernel
theorem dX4_basket_4 : decode cX4_basket 4 = .ok (.getfield 32, 3) := by decide +kernel
theorem dX4_basket_7 : decode cX4_basket 7 = .ok (.istore 5, 2) := by decide +kernel
theorem dX4_basket_9 : decode cX4_basket 9 = .ok (.aload_n 0, 1) := by decide +kernel
theorem dX4_basket_10 : decode cX4_basket 10 = .ok (.aload_n 1, 1) := by decide +kernel
theorem dX4_basket_11 : decode cX4_basket 11 = .ok (.iload_n 2, 1) := by decide +kernel
theorem dX4_basket_12 : decode cX4_basket 12 = .ok (.invokevirtual 36, 3) := by decide +kernel
theorem dX4_basket_15 : decode cX4_basket 15 = .ok (.iload 4, 2) := by decide +kernel
theorem dX4_basket_17 : decode cX4_basket 17 = .ok (.istore 6, 2) := by decide +kernel
theorem dX4_basket_19 : decode cX4_basket 19 = .ok (.iconst 0, 1) := by decide +kernel
theorem dX4_basket_20 : decode cX4_basket 20 = .ok (.istore 7, 2) := by decide +kernel
theorem dX4_basket_22 : decode cX4_basket 22 = .ok (.iconst 0, 1) := by decide +kernel
theorem dX4_basket_23 : decode cX4_basket 23 = .ok (.istore 8, 2) := by decide +kernel
theorem dX4_basket_25 : decode cX4_basket 25 = .ok (.iconst 0, 1) := by decide +kernel
theorem dX4_basket_26 : decode cX4_basket 26 = .ok (.istore 9, 2) := by decide +kernel
theorem dX4_basket_28 : decode cX4_basket 28 = .ok (.iload 9, 2) := by decide +kernel
theorem dX4_basket_30 : decode cX4_basket 30 = .ok (.iload 5, 2) := by decide +kernel
theorem dX4_basket_32 : decode cX4_basket 32 = .ok (.if_icmp .ge 72, 3) := by decide +kernel
theorem dX4_basket_35 : decode cX4_basket 35 = .ok (.aload_n 0, 1) := by decide +kernel
theorem dX4_basket_36 : decode cX4_basket 36 = .ok (.iload 5, 2) := by decide +kernel
theorem dX4_basket_38 : decode cX4_basket 38 = .ok (.iload_n 3, 1) := by decide +kernel
theorem dX4_basket_39 : decode cX4_basket 39 = .ok (.iload 7, 2) := by decide +kernel
theorem dX4_basket_41 : decode cX4_basket 41 = .ok (.invokevirtual 40, 3) := by decide +kernel
theorem dX4_basket_44 : decode cX4_basket 44 = .ok (.istore 10, 2) := by decide +kernel
theorem dX4_basket_46 : decode cX4_basket 46 = .ok (.iload 7, 2) := by decide +kernel
theorem dX4_basket_48 : decode cX4_basket 48 = .ok (.iconst 1, 1) := by decide +kernel
theorem dX4_basket_49 : decode cX4_basket 49 = .ok (.iload 10, 2) := by decide +kernel
theorem dX4_basket_51 : decode cX4_basket 51 = .ok (.ishl, 1) := by decide +kernel
theorem dX4_basket_52 : decode cX4_basket 52 = .ok (.ior, 1) := by decide +kernel
theorem dX4_basket_53 : decode cX4_basket 53 = .ok (.istore 7, 2) := by decide +kernel
theorem dX4_basket_55 : decode cX4_basket 55 = .ok (.aload_n 1, 1) := by decide +kernel
theorem dX4_basket_56 : decode cX4_basket 56 = .ok (.iload_n 2, 1) := by decide +kernel
theorem dX4_basket_57 : decode cX4_basket 57 = .ok (.iload 10, 2) := by decide +kernel
theorem dX4_basket_59 : decode cX4_basket 59 = .ok (.invokevirtual 44, 3) := by decide +kernel
theorem dX4_basket_62 : decode cX4_basket 62 = .ok (.ifCond .ne 36, 3) := by decide +kernel
theorem dX4_basket_65 : decode cX4_basket 65 = .ok (.aload_n 0, 1) := by decide +kernel
theorem dX4_basket_66 : decode cX4_basket 66 = .ok (.getfield 11, 3) := by decide +kernel
theorem dX4_basket_69 : decode cX4_basket 69 = .ok (.iload 10, 2) := by decide +kernel
theorem dX4_basket_71 : decode cX4_basket 71 = .ok (.iaload, 1) := by decide +kernel
theorem dX4_basket_72 : decode cX4_basket 72 = .ok (.iload 6, 2) := by decide +kernel
theorem dX4_basket_74 : decode cX4_basket 74 = .ok (.if_icmp .gt 24, 3) := by decide +kernel
theorem dX4_basket_77 : decode cX4_basket 77 = .ok (.iload 6, 2) := by decide +kernel
theorem dX4_basket_79 : decode cX4_basket 79 = .ok (.aload_n 0, 1) := by decide +kernel
theorem dX4_basket_80 : decode cX4_basket 80 = .ok (.getfield 11, 3) := by decide +kernel
theorem dX4_basket_83 : decode cX4_basket 83 = .ok (.iload 10, 2) := by decide +kernel
theorem dX4_basket_85 : decode cX4_basket 85 = .ok (.iaload, 1) := by decide +kernel
theorem dX4_basket_86 : decode cX4_basket 86 = .ok (.isub, 1) := by decide +kernel
theorem dX4_basket_87 : decode cX4_basket 87 = .ok (.istore 6, 2) := by decide +kernel
theorem dX4_basket_89 : decode cX4_basket 89 = .ok (.iload 8, 2) := by decide +kernel
theorem dX4_basket_91 : decode cX4_basket 91 = .ok (.iconst 1, 1) := by decide +kernel
theorem dX4_basket_92 : decode cX4_basket 92 = .ok (.iload 10, 2) := by decide +kernel
theorem dX4_basket_94 : decode cX4_basket 94 = .ok (.ishl, 1) := by decide +kernel
theorem dX4_basket_95 : decode cX4_basket 95 = .ok (.ior, 1) := by decide +kernel
theorem dX4_basket_96 : decode cX4_basket 96 = .ok (.istore 8, 2) := by decide +kernel
theorem dX4_basket_98 : decode cX4_basket 98 = .ok (.iinc 9 1, 3) := by decide +kernel
theorem dX4_basket_101 : decode cX4_basket 101 = .ok (.goto (-73), 3) := by decide +kernel
theorem dX4_basket_104 : decode cX4_basket 104 = .ok (.iload 8, 2) := by decide +kernel
theorem dX4_basket_106 : decode cX4_basket 106 = .ok (.ireturn, 1) := by decide +kernel
def fX4_basket_L28 (p2 : Int32) (p3 : Int32) (w3 : Int32) : Nat → St → Int32 → Int32 → Int32 → Int32 → (St → Int32 → Int32 → Int32 → Int32 → Option (St × Int32)) → Option (St × Int32)
  | 0, _, _, _, _, _, _ => none
  | n + 1, σ4, v5, v6, v7, v8, k => (if w3 ≤ v8 then k σ4 v5 v6 v7 v8 else cl (fX4_pick σ4 w3 p3 v6) (fun σ9 r10 => cl (fX9_has σ9 p2 r10) (fun σ11 r12 => jn (fun (z14 : Int32) (z15 : Int32) => fX4_basket_L28 p2 p3 w3 n σ11 z14 (v6 ||| (1 <<< (r10 &&& 31))) z15 (v8 + 1) k) (fun k13 => (if r12 = 0 then rd LC σ11 42 r10 (fun x16 => (if v5 < x16 then k13 v5 v7 else rd LC σ11 42 r10 (fun x17 => k13 (v5 - x17) (v7 ||| (1 <<< (r10 &&& 31)))))) else k13 v5 v7)))))
def fX4_basket (σ : St) (p2 : Int32) (p3 : Int32) (p4 : Int32) : Option (St × Int32) := cl (fX4_look σ p2) (fun σ1 r2 => pv (σ.1 26 6) (fun (w3 : Int32) => fX4_basket_L28 p2 p3 w3 10000 σ1 p4 0 0 0 (fun σ18 v19 v20 v21 v22 => some (σ18, v21))))
set_option maxHeartbeats 4000000 in
set_option maxRecDepth 100000 in
theorem ctX4_basket (l : Launch) (g : GG) (σ : St) (p2 : Int32) (p3 : Int32) (p4 : Int32) (σ' : St) (r : Int32) (hE : fX4_basket σ p2 p3 p4 = some (σ', r)) : MI 52 entC l g yX4_basket (Cond.code yX4_basket cX4_basket 11 (some .int) :: gtbl) (rmD 4) [.ref (g.2.1 41), .ref (g.2.1 25), .int p2, .int p3, .int p4] σ σ' r := by
  refine mi_i (own := RX4) (lv := [(0, .ref (g.2.1 41)), (1, .ref (g.2.1 25)), (2, .int p2), (3, .int p3), (4, .int p4)]) (by decide) rfl (Nat.le_of_ble_eq_true rfl) rfl (fun p e s m below meth c ls args Q A H0 H locs C hK hA hQ hs hl => ?_)
  have hx := C.1
  have hb := C.2.1
  unfold fX4_basket at hE
  refine lv_aload_n hx hb dX4_basket_0 rfl (lv_at hl 1 rfl) ?_
  refine gf_X4_26_25 C hK hs dX4_basket_1 ?_
  refine gf_X4_32_26 C hK hs dX4_basket_4 ?_
  refine lv_istore (lv' := [(5, .int (σ.1 26 6)), (0, .ref (g.2.1 41)), (1, .ref (g.2.1 25)), (2, .int p2), (3, .int p3), (4, .int p4)]) hx hb dX4_basket_7 hl (by decide) rfl (fun ls hl => ?_)
  refine lv_aload_n hx hb dX4_basket_9 rfl (lv_at hl 1 rfl) ?_
  refine lv_aload_n hx hb dX4_basket_10 rfl (lv_at hl 2 rfl) ?_
  refine lv_iload_n hx hb dX4_basket_11 rfl (lv_at hl 3 rfl) ?_
  obtain ⟨σ1, r2, hE1, hE⟩ := cl_e hE
  refine x_cvv (As := [.ref (g.2.1 25), .int p2]) (rest := []) C hl.1 hK hs hA ⟨Nat.le_refl 0, Nat.le_refl 0⟩ (ctX4_look l g _ _ _ _ hE1) (cw_X4_36 C ⟨Nat.le_of_ble_eq_true rfl, Nat.le_of_ble_eq_true rfl⟩) (hs.recv hK 41 (by decide) rfl rfl) rfl rfl (Nat.le_of_ble_eq_true rfl) dX4_basket_12 (fun H locs hs => ?_)
  refine lv_iload hx hb dX4_basket_15 (lv_at hl 5 rfl) ?_
  refine lv_istore (lv' := [(6, .int p4), (5, .int (σ.1 26 6)), (0, .ref (g.2.1 41)), (1, .ref (g.2.1 25)), (2, .int p2), (3, .int p3), (4, .int p4)]) hx hb dX4_basket_17 hl (by decide) rfl (fun ls hl => ?_)
  refine lv_iconst (v := 0) hx hb dX4_basket_19 (by decide) ?_
  refine lv_istore (lv' := [(7, .int 0), (6, .int p4), (5, .int (σ.1 26 6)), (0, .ref (g.2.1 41)), (1, .ref (g.2.1 25)), (2, .int p2), (3, .int p3), (4, .int p4)]) hx hb dX4_basket_20 hl (by decide) rfl (fun ls hl => ?_)
  refine lv_iconst (v := 0) hx hb dX4_basket_22 (by decide) ?_
  refine lv_istore (lv' := [(8, .int 0), (7, .int 0), (6, .int p4), (5, .int (σ.1 26 6)), (0, .ref (g.2.1 41)), (1, .ref (g.2.1 25)), (2, .int p2), (3, .int p3), (4, .int p4)]) hx hb dX4_basket_23 hl (by decide) rfl (fun ls hl => ?_)
  refine lv_iconst (v := 0) hx hb dX4_basket_25 (by decide) ?_
  refine lv_istore (lv' := [(9, .int 0), (8, .int 0), (7, .int 0), (6, .int p4), (5, .int (σ.1 26 6)), (0, .ref (g.2.1 41)), (1, .ref (g.2.1 25)), (2, .int p2), (3, .int p3), (4, .int p4)]) hx hb dX4_basket_26 hl (by decide) rfl (fun ls hl => ?_)
  obtain ⟨w3, ew3, hE⟩ := pv_w hE
  have hl : lv_has ls 11 [(9, .int 0), (8, .int 0), (7, .int 0), (6, .int p4), (5, .int w3), (0, .ref (g.2.1 41)), (1, .ref (g.2.1 25)), (2, .int p2), (3, .int p3), (4, .int p4)] := by rw [ew3]; exact hl
  have hL28 : ∀ (n : Nat) (σ4 : St) (v5 : Int32) (v6 : Int32) (v7 : Int32) (v8 : Int32) (k : St → Int32 → Int32 → Int32 → Int32 → Option (St × Int32)), fX4_basket_L28 p2 p3 w3 n σ4 v5 v6 v7 v8 k = some (σ', r) → (∀ (σ4 : St) (v5 : Int32) (v6 : Int32) (v7 : Int32) (v8 : Int32) (H : Heap) (locs : List Loc) (ls : Array Slot), HW 52 entC g A H0 H locs σ4 → lv_has ls 11 [(0, .ref (g.2.1 41)), (1, .ref (g.2.1 25)), (2, .int p2), (3, .int p3), (5, .int w3), (6, .int v5), (7, .int v6), (8, .int v7), (9, .int v8)] → k σ4 v5 v6 v7 v8 = some (σ', r) → W p l e (rmD 4) s m args below meth c H locs 0 0 Q (F0 m 104 ls [])) → ∀ (H : Heap) (locs : List Loc) (ls : Array Slot), HW 52 entC g A H0 H locs σ4 → lv_has ls 11 [(0, .ref (g.2.1 41)), (1, .ref (g.2.1 25)), (2, .int p2), (3, .int p3), (5, .int w3), (6, .int v5), (7, .int v6), (8, .int v7), (9, .int v8)] → W p l e (rmD 4) s m args below meth c H locs 0 0 Q (F0 m 28 ls []) := by
    intro n
    induction n with
    | zero =>
      intro σ4 v5 v6 v7 v8 k hE
      rw [fX4_basket_L28] at hE
      exact no_e hE
    | succ n ih =>
      intro σ4 v5 v6 v7 v8 k hE hk H locs ls hs hl
      rw [fX4_basket_L28] at hE
      refine lv_iload hx hb dX4_basket_28 (lv_at hl 8 rfl) ?_
      refine lv_iload hx hb dX4_basket_30 (lv_at hl 4 rfl) ?_
      refine lv_icmp_ge (tgt := 104) hx hb dX4_basket_32 (by decide) (fun hc => ?_) (fun hc => ?_)
      · have hE := if_t hc hE
        exact hk σ4 v5 v6 v7 v8 _ _ _ hs (lv_sub hl [0, 1, 2, 3, 4, 5, 6, 7, 8] rfl) hE
      · have hE := if_f hc hE
        refine lv_aload_n hx hb dX4_basket_35 rfl (lv_at hl 0 rfl) ?_
        refine lv_iload hx hb dX4_basket_36 (lv_at hl 4 rfl) ?_
        refine lv_iload_n hx hb dX4_basket_38 rfl (lv_at hl 3 rfl) ?_
        refine lv_iload hx hb dX4_basket_39 (lv_at hl 6 rfl) ?_
        obtain ⟨σ9, r10, hE1, hE⟩ := cl_e hE
        refine x_civ (As := [.int w3, .int p3, .int v6]) (rest := []) C hl.1 hK hs hA ⟨Nat.le_refl 0, Nat.le_refl 0⟩ (ctX4_pick l g _ _ _ _ _ _ hE1) (cw_X4_40 C ⟨Nat.le_of_ble_eq_true rfl, Nat.le_of_ble_eq_true rfl⟩) (hs.recv hK 41 (by decide) rfl rfl) rfl rfl (Nat.le_of_ble_eq_true rfl) dX4_basket_41 (fun H locs hs => ?_)
        refine lv_istore (lv' := [(10, .int r10), (0, .ref (g.2.1 41)), (1, .ref (g.2.1 25)), (2, .int p2), (3, .int p3), (5, .int w3), (6, .int v5), (7, .int v6), (8, .int v7), (9, .int v8)]) hx hb dX4_basket_44 hl (by decide) rfl (fun ls hl => ?_)
        refine lv_iload hx hb dX4_basket_46 (lv_at hl 7 rfl) ?_
        refine lv_iconst (v := 1) hx hb dX4_basket_48 (by decide) ?_
        refine lv_iload hx hb dX4_basket_49 (lv_at hl 0 rfl) ?_
        refine lv_ishl hx hb dX4_basket_51 ?_
        refine lv_ior hx hb dX4_basket_52 ?_
        refine lv_istore (lv' := [(7, .int (v6 ||| (1 <<< (r10 &&& 31)))), (10, .int r10), (0, .ref (g.2.1 41)), (1, .ref (g.2.1 25)), (2, .int p2), (3, .int p3), (5, .int w3), (6, .int v5), (8, .int v7), (9, .int v8)]) hx hb dX4_basket_53 hl (by decide) rfl (fun ls hl => ?_)
        refine lv_aload_n hx hb dX4_basket_55 rfl (lv_at hl 3 rfl) ?_
        refine lv_iload_n hx hb dX4_basket_56 rfl (lv_at hl 4 rfl) ?_
        refine lv_iload hx hb dX4_basket_57 (lv_at hl 1 rfl) ?_
        obtain ⟨σ11, r12, hE1, hE⟩ := cl_e hE
        refine x_civ (As := [.int p2, .int r10]) (rest := []) C hl.1 hK hs hA ⟨Nat.le_refl 0, Nat.le_refl 0⟩ (ctX9_has l g _ _ _ _ _ hE1) (cw_X4_44 C ⟨Nat.le_of_ble_eq_true rfl, Nat.le_of_ble_eq_true rfl⟩) (hs.recv hK 25 (by decide) rfl rfl) rfl rfl (Nat.le_of_ble_eq_true rfl) dX4_basket_59 (fun H locs hs => ?_)
        refine jn2 hE (fun k13 hE hk13 => ?_)
        have hJk13 : ∀ (z14 : Int32) (z15 : Int32) (H : Heap) (locs : List Loc) (ls : Array Slot), HW 52 entC g A H0 H locs σ11 → lv_has ls 11 [(0, .ref (g.2.1 41)), (1, .ref (g.2.1 25)), (2, .int p2), (3, .int p3), (5, .int w3), (6, .int z14), (7, .int (v6 ||| (1 <<< (r10 &&& 31)))), (8, .int z15), (9, .int v8)] → k13 z14 z15 = some (σ', r) → W p l e (rmD 4) s m args below meth c H locs 0 0 Q (F0 m 98 ls []) := by
          intro z14 z15 H locs ls hs hl hE
          have hE := hk13 _ _ hE
          refine lv_iinc (v := v8 + 1) (lv' := [(9, .int (v8 + 1)), (0, .ref (g.2.1 41)), (1, .ref (g.2.1 25)), (2, .int p2), (3, .int p3), (5, .int w3), (6, .int z14), (7, .int (v6 ||| (1 <<< (r10 &&& 31)))), (8, .int z15)]) hx hb dX4_basket_98 hl (k := 8) rfl rfl (by decide) rfl (fun ls hl => ?_)
          refine lv_goto (tgt := 28) hx hb dX4_basket_101 (by decide) ?_
          exact ih _ _ _ _ _ _ hE hk _ _ _ hs (lv_sub hl [1, 2, 3, 4, 5, 6, 7, 8, 0] rfl)
        refine lv_if_ne (tgt := 98) hx hb dX4_basket_62 (by decide) (fun hc => ?_) (fun hc => ?_)
        · have hE := if_f hc hE
          exact hJk13 v5 v7 _ _ _ hs (lv_sub hl [2, 3, 4, 5, 6, 7, 0, 8, 9] rfl) hE
        · have hE := if_t hc hE
          refine lv_aload_n hx hb dX4_basket_65 rfl (lv_at hl 2 rfl) ?_
          refine gf_X4_11_41 C hK hs dX4_basket_66 ?_
          refine lv_iload hx hb dX4_basket_69 (lv_at hl 1 rfl) ?_
          obtain ⟨hi, x16, ex16, hE⟩ := rd_w hE
          refine y_ald layC C hK hs hi ex16 dX4_basket_71 ?_
          refine lv_iload hx hb dX4_basket_72 (lv_at hl 7 rfl) ?_
          refine lv_icmp_gt (tgt := 98) hx hb dX4_basket_74 (by decide) (fun hc => ?_) (fun hc => ?_)
          · have hE := if_t hc hE
            exact hJk13 v5 v7 _ _ _ hs (lv_sub hl [2, 3, 4, 5, 6, 7, 0, 8, 9] rfl) hE
          · have hE := if_f hc hE
            refine lv_iload hx hb dX4_basket_77 (lv_at hl 7 rfl) ?_
            refine lv_aload_n hx hb dX4_basket_79 rfl (lv_at hl 2 rfl) ?_
            refine gf_X4_11_41 C hK hs dX4_basket_80 ?_
            refine lv_iload hx hb dX4_basket_83 (lv_at hl 1 rfl) ?_
            obtain ⟨hi, x17, ex17, hE⟩ := rd_w hE
            refine y_ald layC C hK hs hi ex17 dX4_basket_85 ?_
            refine lv_isub hx hb dX4_basket_86 ?_
            refine lv_istore (lv' := [(6, .int (v5 - x17)), (7, .int (v6 ||| (1 <<< (r10 &&& 31)))), (10, .int r10), (0, .ref (g.2.1 41)), (1, .ref (g.2.1 25)), (2, .int p2), (3, .int p3), (5, .int w3), (8, .int v7), (9, .int v8)]) hx hb dX4_basket_87 hl (by decide) rfl (fun ls hl => ?_)
            refine lv_iload hx hb dX4_basket_89 (lv_at hl 8 rfl) ?_
            refine lv_iconst (v := 1) hx hb dX4_basket_91 (by decide) ?_
            refine lv_iload hx hb dX4_basket_92 (lv_at hl 2 rfl) ?_
            refine lv_ishl hx hb dX4_basket_94 ?_
            refine lv_ior hx hb dX4_basket_95 ?_
            refine lv_istore (lv' := [(8, .int (v7 ||| (1 <<< (r10 &&& 31)))), (6, .int (v5 - x17)), (7, .int (v6 ||| (1 <<< (r10 &&& 31)))), (10, .int r10), (0, .ref (g.2.1 41)), (1, .ref (g.2.1 25)), (2, .int p2), (3, .int p3), (5, .int w3), (9, .int v8)]) hx hb dX4_basket_96 hl (by decide) rfl (fun ls hl => ?_)
            exact hJk13 (v5 - x17) (v7 ||| (1 <<< (r10 &&& 31))) _ _ _ hs (lv_sub hl [4, 5, 6, 7, 8, 1, 2, 0, 9] rfl) hE
  refine hL28 _ _ _ _ _ _ _ hE (fun σ18 v19 v20 v21 v22 H locs ls hs hl hE => ?_) H locs ls hs (lv_sub hl [5, 6, 7, 8, 4, 3, 2, 1, 0] rfl)
  refine lv_iload hx hb dX4_basket_104 (lv_at hl 7 rfl) ?_
  exact hQ hs hE dX4_basket_106
theorem dX4_costOf_0 : decode cX4_costOf 0 = .ok (.iconst 0, 1) := by decide +kernel
theorem dX4_costOf_1 : decode cX4_costOf 1 = .ok (.istore_n 3, 1) := by decide +kernel
theorem dX4_costOf_2 : decode cX4_costOf 2 = .ok (.iconst 0, 1) := by decide +kernel
theorem dX4_costOf_3 : decode cX4_costOf 3 = .ok (.istore 4, 2) := by decide +kernel
theorem dX4_costOf_5 : decode cX4_costOf 5 = .ok (.iload 4, 2) := by decide +kernel
theorem dX4_costOf_7 : decode cX4_costOf 7 = .ok (.aload_n 0, 1) := by decide +kernel
theorem dX4_costOf_8 : decode cX4_costOf 8 = .ok (.getfield 26, 3) := by decide +kernel
theorem dX4_costOf_11 : decode cX4_costOf 11 = .ok (.getfield 32, 3) := by decide +kernel
theorem dX4_costOf_14 : decode cX4_costOf 14 = .ok (.if_icmp .ge 31, 3) := by decide +kernel
theorem dX4_costOf_17 : decode cX4_costOf 17 = .ok (.iload_n 2, 1) := by decide +kernel
theorem dX4_costOf_18 : decode cX4_costOf 18 = .ok (.iload 4, 2) := by decide +kernel
theorem dX4_costOf_20 : decode cX4_costOf 20 = .ok (.ishr, 1) := by decide +kernel
theorem dX4_costOf_21 : decode cX4_costOf 21 = .ok (.iconst 1, 1) := by decide +kernel
theorem dX4_costOf_22 : decode cX4_costOf 22 = .ok (.iand, 1) := by decide +kernel
theorem dX4_costOf_23 : decode cX4_costOf 23 = .ok (.ifCond .eq 16, 3) := by decide +kernel
theorem dX4_costOf_26 : decode cX4_costOf 26 = .ok (.iload_n 3, 1) := by decide +kernel
theorem dX4_costOf_27 : decode cX4_costOf 27 = .ok (.aload_n 0, 1) := by decide +kernel
theorem dX4_costOf_28 : decode cX4_costOf 28 = .ok (.getfield 26, 3) := by decide +kernel
theorem dX4_costOf_31 : decode cX4_costOf 31 = .ok (.iload_n 1, 1) := by decide +kernel
theorem dX4_costOf_32 : decode cX4_costOf 32 = .ok (.iload 4, 2) := by decide +kernel
theorem dX4_costOf_34 : decode cX4_costOf 34 = .ok (.invokevirtual 48, 3) := by decide +kernel
theorem dX4_costOf_37 : decode cX4_costOf 37 = .ok (.iadd, 1) := by decide +kernel
theorem dX4_costOf_38 : decode cX4_costOf 38 = .ok (.istore_n 3, 1) := by decide +kernel
theorem dX4_costOf_39 : decode cX4_costOf 39 = .ok (.iinc 4 1, 3) := by decide +kernel
theorem dX4_costOf_42 : decode cX4_costOf 42 = .ok (.goto (-37), 3) := by decide +kernel
theorem dX4_costOf_45 : decode cX4_costOf 45 = .ok (.iload_n 3, 1) := by decide +kernel
theorem dX4_costOf_46 : decode cX4_costOf 46 = .ok (.ireturn, 1) := by decide +kernel
def fX4_costOf_L5 (p1 : Int32) (p2 : Int32) : Nat → St → Int32 → Int32 → (St → Int32 → Int32 → Option (St × Int32)) → Option (St × Int32)
  | 0, _, _, _, _ => none
  | n + 1, σ1, v2, v3, k => (if (σ1.1 26 6) ≤ v3 then k σ1 v2 v3 else jn (fun (σ5 : St) (z6 : Int32) => fX4_costOf_L5 p1 p2 n σ5 z6 (v3 + 1) k) (fun k4 => (if ((p2 >>> (v3 &&& 31)) &&& 1) = 0 then k4 σ1 v2 else cl (fX6_pays σ1 p1 v3) (fun σ7 r8 => k4 σ7 (v2 + r8)))))
def fX4_costOf (σ : St) (p1 : Int32) (p2 : Int32) : Option (St × Int32) := fX4_costOf_L5 p1 p2 10000 σ 0 0 (fun σ9 v10 v11 => some (σ9, v10))
set_option maxHeartbeats 4000000 in
set_option maxRecDepth 100000 in
theorem ctX4_costOf (l : Launch) (g : GG) (σ : St) (p1 : Int32) (p2 : Int32) (σ' : St) (r : Int32) (hE : fX4_costOf σ p1 p2 = some (σ', r)) : MI 52 entC l g yX4_costOf (Cond.code yX4_costOf cX4_costOf 5 (some .int) :: gtbl) (rmD 3) [.ref (g.2.1 25), .int p1, .int p2] σ σ' r := by
  refine mi_i (own := RX4) (lv := [(0, .ref (g.2.1 25)), (1, .int p1), (2, .int p2)]) (by decide) rfl (Nat.le_of_ble_eq_true rfl) rfl (fun p e s m below meth c ls args Q A H0 H locs C hK hA hQ hs hl => ?_)
  have hx := C.1
  have hb := C.2.1
  unfold fX4_costOf at hE
  refine lv_iconst (v := 0) hx hb dX4_costOf_0 (by decide) ?_
  refine lv_istore_n (lv' := [(3, .int 0), (0, .ref (g.2.1 25)), (1, .int p1), (2, .int p2)]) hx hb dX4_costOf_1 rfl hl (by decide) rfl (fun ls hl => ?_)
  refine lv_iconst (v := 0) hx hb dX4_costOf_2 (by decide) ?_
  refine lv_istore (lv' := [(4, .int 0), (3, .int 0), (0, .ref (g.2.1 25)), (1, .int p1), (2, .int p2)]) hx hb dX4_costOf_3 hl (by decide) rfl (fun ls hl => ?_)
  have hL5 : ∀ (n : Nat) (σ1 : St) (v2 : Int32) (v3 : Int32) (k : St → Int32 → Int32 → Option (St × Int32)), fX4_costOf_L5 p1 p2 n σ1 v2 v3 k = some (σ', r) → (∀ (σ1 : St) (v2 : Int32) (v3 : Int32) (H : Heap) (locs : List Loc) (ls : Array Slot), HW 52 entC g A H0 H locs σ1 → lv_has ls 5 [(0, .ref (g.2.1 25)), (1, .int p1), (2, .int p2), (3, .int v2), (4, .int v3)] → k σ1 v2 v3 = some (σ', r) → W p l e (rmD 3) s m args below meth c H locs 0 0 Q (F0 m 45 ls [])) → ∀ (H : Heap) (locs : List Loc) (ls : Array Slot), HW 52 entC g A H0 H locs σ1 → lv_has ls 5 [(0, .ref (g.2.1 25)), (1, .int p1), (2, .int p2), (3, .int v2), (4, .int v3)] → W p l e (rmD 3) s m args below meth c H locs 0 0 Q (F0 m 5 ls []) := by
    intro n
    induction n with
    | zero =>
      intro σ1 v2 v3 k hE
      rw [fX4_costOf_L5] at hE
      exact no_e hE
    | succ n ih =>
      intro σ1 v2 v3 k hE hk H locs ls hs hl
      rw [fX4_costOf_L5] at hE
      refine lv_iload hx hb dX4_costOf_5 (lv_at hl 4 rfl) ?_
      refine lv_aload_n hx hb dX4_costOf_7 rfl (lv_at hl 0 rfl) ?_
      refine gf_X4_26_25 C hK hs dX4_costOf_8 ?_
      refine gf_X4_32_26 C hK hs dX4_costOf_11 ?_
      refine lv_icmp_ge (tgt := 45) hx hb dX4_costOf_14 (by decide) (fun hc => ?_) (fun hc => ?_)
      · have hE := if_t hc hE
        exact hk σ1 v2 v3 _ _ _ hs (lv_sub hl [0, 1, 2, 3, 4] rfl) hE
      · have hE := if_f hc hE
        refine lv_iload_n hx hb dX4_costOf_17 rfl (lv_at hl 2 rfl) ?_
        refine lv_iload hx hb dX4_costOf_18 (lv_at hl 4 rfl) ?_
        refine lv_ishr hx hb dX4_costOf_20 ?_
        refine lv_iconst (v := 1) hx hb dX4_costOf_21 (by decide) ?_
        refine lv_iand hx hb dX4_costOf_22 ?_
        refine jn2 hE (fun k4 hE hk4 => ?_)
        have hJk4 : ∀ (σ5 : St) (z6 : Int32) (H : Heap) (locs : List Loc) (ls : Array Slot), HW 52 entC g A H0 H locs σ5 → lv_has ls 5 [(0, .ref (g.2.1 25)), (1, .int p1), (2, .int p2), (3, .int z6), (4, .int v3)] → k4 σ5 z6 = some (σ', r) → W p l e (rmD 3) s m args below meth c H locs 0 0 Q (F0 m 39 ls []) := by
          intro σ5 z6 H locs ls hs hl hE
          have hE := hk4 _ _ hE
          refine lv_iinc (v := v3 + 1) (lv' := [(4, .int (v3 + 1)), (0, .ref (g.2.1 25)), (1, .int p1), (2, .int p2), (3, .int z6)]) hx hb dX4_costOf_39 hl (k := 4) rfl rfl (by decide) rfl (fun ls hl => ?_)
          refine lv_goto (tgt := 5) hx hb dX4_costOf_42 (by decide) ?_
          exact ih _ _ _ _ hE hk _ _ _ hs (lv_sub hl [1, 2, 3, 4, 0] rfl)
        refine lv_if_eq (tgt := 39) hx hb dX4_costOf_23 (by decide) (fun hc => ?_) (fun hc => ?_)
        · have hE := if_t hc hE
          exact hJk4 σ1 v2 _ _ _ hs (lv_sub hl [0, 1, 2, 3, 4] rfl) hE
        · have hE := if_f hc hE
          refine lv_iload_n hx hb dX4_costOf_26 rfl (lv_at hl 3 rfl) ?_
          refine lv_aload_n hx hb dX4_costOf_27 rfl (lv_at hl 0 rfl) ?_
          refine gf_X4_26_25 C hK hs dX4_costOf_28 ?_
          refine lv_iload_n hx hb dX4_costOf_31 rfl (lv_at hl 1 rfl) ?_
          refine lv_iload hx hb dX4_costOf_32 (lv_at hl 4 rfl) ?_
          obtain ⟨σ7, r8, hE1, hE⟩ := cl_e hE
          refine x_civ (As := [.int p1, .int v3]) (rest := [.int v2]) C hl.1 hK hs hA ⟨Nat.le_refl 0, Nat.le_refl 0⟩ (ctX6_pays l g _ _ _ _ _ hE1) (cw_X4_48 C ⟨Nat.le_of_ble_eq_true rfl, Nat.le_of_ble_eq_true rfl⟩) (hs.recv hK 26 (by decide) rfl rfl) rfl rfl (Nat.le_of_ble_eq_true rfl) dX4_costOf_34 (fun H locs hs => ?_)
          refine lv_iadd hx hb dX4_costOf_37 ?_
          refine lv_istore_n (lv' := [(3, .int (v2 + r8)), (0, .ref (g.2.1 25)), (1, .int p1), (2, .int p2), (4, .int v3)]) hx hb dX4_costOf_38 rfl hl (by decide) rfl (fun ls hl => ?_)
          exact hJk4 σ7 (v2 + r8) _ _ _ hs (lv_sub hl [1, 2, 3, 0, 4] rfl) hE
  refine hL5 _ _ _ _ _ hE (fun σ9 v10 v11 H locs ls hs hl hE => ?_) H locs ls hs (lv_sub hl [2, 3, 4, 1, 0] rfl)
  refine lv_iload_n hx hb dX4_costOf_45 rfl (lv_at hl 3 rfl) ?_
  exact hQ hs hE dX4_costOf_46
theorem dX4_isPurse_0 : decode cX4_isPurse 0 = .ok (.iload_n 0, 1) := by decide +kernel
theorem dX4_isPurse_1 : decode cX4_isPurse 1 = .ok (.ifCond .lt 13, 3) := by decide +kernel
theorem dX4_isPurse_4 : decode cX4_isPurse 4 = .ok (.iload_n 0, 1) := by decide +kernel
theorem dX4_isPurse_5 : decode cX4_isPurse 5 = .ok (.bipush 99, 2) := by decide +kernel
theorem dX4_isPurse_7 : decode cX4_isPurse 7 = .ok (.if_icmp .gt 7, 3) := by decide +kernel
theorem dX4_isPurse_10 : decode cX4_isPurse 10 = .ok (.iconst 1, 1) := by decide +kernel
theorem dX4_isPurse_11 : decode cX4_isPurse 11 = .ok (.goto 4, 3) := by decide +kernel
theorem dX4_isPurse_14 : decode cX4_isPurse 14 = .ok (.iconst 0, 1) := by decide +kernel
theorem dX4_isPurse_15 : decode cX4_isPurse 15 = .ok (.ireturn, 1) := by decide +kernel
def fX4_isPurse (σ : St) (p0 : Int32) : Option (St × Int32) := (if p0 < 0 then some (σ, 0) else (if 99 < p0 then some (σ, 0) else some (σ, 1)))
set_option maxHeartbeats 4000000 in
set_option maxRecDepth 100000 in
theorem ctX4_isPurse (l : Launch) (g : GG) (σ : St) (p0 : Int32) (σ' : St) (r : Int32) (hE : fX4_isPurse σ p0 = some (σ', r)) : MI 52 entC l g yX4_isPurse (Cond.code yX4_isPurse cX4_isPurse 1 (some .boolean) :: gtbl) (rmD 1) [.int p0] σ σ' r := by
  refine mi_z (own := RX4) (lv := [(0, .int p0)]) (by decide) rfl (Nat.le_of_ble_eq_true rfl) rfl (fun p e s m below meth c ls args Q A H0 H locs C hK hA hQ hs hl => ?_)
  have hx := C.1
  have hb := C.2.1
  unfold fX4_isPurse at hE
  refine lv_iload_n hx hb dX4_isPurse_0 rfl (lv_at hl 0 rfl) ?_
  refine lv_if_lt (tgt := 14) hx hb dX4_isPurse_1 (by decide) (fun hc => ?_) (fun hc => ?_)
  · have hE := if_t hc hE
    refine lv_iconst (v := 0) hx hb dX4_isPurse_14 (by decide) ?_
    exact hQ hs rfl hE dX4_isPurse_15
  · have hE := if_f hc hE
    refine lv_iload_n hx hb dX4_isPurse_4 rfl (lv_at hl 0 rfl) ?_
    refine lv_bipush (v := 99) hx hb dX4_isPurse_5 (by decide) ?_
    refine lv_icmp_gt (tgt := 14) hx hb dX4_isPurse_7 (by decide) (fun hc => ?_) (fun hc => ?_)
    · have hE := if_t hc hE
      refine lv_iconst (v := 0) hx hb dX4_isPurse_14 (by decide) ?_
      exact hQ hs rfl hE dX4_isPurse_15
    · have hE := if_f hc hE
      refine lv_iconst (v := 1) hx hb dX4_isPurse_10 (by decide) ?_
      refine lv_goto (tgt := 15) hx hb dX4_isPurse_11 (by decide) ?_
      exact hQ hs rfl hE dX4_isPurse_15
theorem dJ6_bitCount_0f7a4_0 : decode cJ6_bitCount_0f7a4 0 = .ok (.iload_n 0, 1) := by decide +kernel
theorem dJ6_bitCount_0f7a4_1 : decode cJ6_bitCount_0f7a4 1 = .ok (.iload_n 0, 1) := by decide +kernel
theorem dJ6_bitCount_0f7a4_2 : decode cJ6_bitCount_0f7a4 2 = .ok (.iconst 1, 1) := by decide +kernel
theorem dJ6_bitCount_0f7a4_3 : decode cJ6_bitCount_0f7a4 3 = .ok (.iushr, 1) := by decide +kernel
theorem dJ6_bitCount_0f7a4_4 : decode cJ6_bitCount_0f7a4 4 = .ok (.ldc_w 265, 3) := by decide +kernel
theorem dJ6_bitCount_0f7a4_7 : decode cJ6_bitCount_0f7a4 7 = .ok (.iand, 1) := by decide +kernel
theorem dJ6_bitCount_0f7a4_8 : decode cJ6_bitCount_0f7a4 8 = .ok (.isub, 1) := by decide +kernel
theorem dJ6_bitCount_0f7a4_9 : decode cJ6_bitCount_0f7a4 9 = .ok (.istore_n 0, 1) := by decide +kernel
theorem dJ6_bitCount_0f7a4_10 : decode cJ6_bitCount_0f7a4 10 = .ok (.iload_n 0, 1) := by decide +kernel
theorem dJ6_bitCount_0f7a4_11 : decode cJ6_bitCount_0f7a4 11 = .ok (.ldc_w 266, 3) := by decide +kernel
theorem dJ6_bitCount_0f7a4_14 : decode cJ6_bitCount_0f7a4 14 = .ok (.iand, 1) := by decide +kernel
theorem dJ6_bitCount_0f7a4_15 : decode cJ6_bitCount_0f7a4 15 = .ok (.iload_n 0, 1) := by decide +kernel
theorem dJ6_bitCount_0f7a4_16 : decode cJ6_bitCount_0f7a4 16 = .ok (.iconst 2, 1) := by decide +kernel
theorem dJ6_bitCount_0f7a4_17 : decode cJ6_bitCount_0f7a4 17 = .ok (.iushr, 1) := by decide +kernel
theorem dJ6_bitCount_0f7a4_18 : decode cJ6_bitCount_0f7a4 18 = .ok (.ldc_w 266, 3) := by decide +kernel
theorem dJ6_bitCount_0f7a4_21 : decode cJ6_bitCount_0f7a4 21 = .ok (.iand, 1) := by decide +kernel
theorem dJ6_bitCount_0f7a4_22 : decode cJ6_bitCount_0f7a4 22 = .ok (.iadd, 1) := by decide +kernel
theorem dJ6_bitCount_0f7a4_23 : decode cJ6_bitCount_0f7a4 23 = .ok (.istore_n 0, 1) := by decide +kernel
theorem dJ6_bitCount_0f7a4_24 : decode cJ6_bitCount_0f7a4 24 = .ok (.iload_n 0, 1) := by decide +kernel
theorem dJ6_bitCount_0f7a4_25 : decode cJ6_bitCount_0f7a4 25 = .ok (.iload_n 0, 1) := by decide +kernel
theorem dJ6_bitCount_0f7a4_26 : decode cJ6_bitCount_0f7a4 26 = .ok (.iconst 4, 1) := by decide +kernel
theorem dJ6_bitCount_0f7a4_27 : decode cJ6_bitCount_0f7a4 27 = .ok (.iushr, 1) := by decide +kernel
theorem dJ6_bitCount_0f7a4_28 : decode cJ6_bitCount_0f7a4 28 = .ok (.iadd, 1) := by decide +kernel
theorem dJ6_bitCount_0f7a4_29 : decode cJ6_bitCount_0f7a4 29 = .ok (.ldc_w 267, 3) := by decide +kernel
theorem dJ6_bitCount_0f7a4_32 : decode cJ6_bitCount_0f7a4 32 = .ok (.iand, 1) := by decide +kernel
theorem dJ6_bitCount_0f7a4_33 : decode cJ6_bitCount_0f7a4 33 = .ok (.istore_n 0, 1) := by decide +kernel
theorem dJ6_bitCount_0f7a4_34 : decode cJ6_bitCount_0f7a4 34 = .ok (.iload_n 0, 1) := by decide +kernel
theorem dJ6_bitCount_0f7a4_35 : decode cJ6_bitCount_0f7a4 35 = .ok (.iload_n 0, 1) := by decide +kernel
theorem dJ6_bitCount_0f7a4_36 : decode cJ6_bitCount_0f7a4 36 = .ok (.bipush 8, 2) := by decide +kernel
theorem dJ6_bitCount_0f7a4_38 : decode cJ6_bitCount_0f7a4 38 = .ok (.iushr, 1) := by decide +kernel
theorem dJ6_bitCount_0f7a4_39 : decode cJ6_bitCount_0f7a4 39 = .ok (.iadd, 1) := by decide +kernel
theorem dJ6_bitCount_0f7a4_40 : decode cJ6_bitCount_0f7a4 40 = .ok (.istore_n 0, 1) := by decide +kernel
theorem dJ6_bitCount_0f7a4_41 : decode cJ6_bitCount_0f7a4 41 = .ok (.iload_n 0, 1) := by decide +kernel
theorem dJ6_bitCount_0f7a4_42 : decode cJ6_bitCount_0f7a4 42 = .ok (.iload_n 0, 1) := by decide +kernel
theorem dJ6_bitCount_0f7a4_43 : decode cJ6_bitCount_0f7a4 43 = .ok (.bipush 16, 2) := by decide +kernel
theorem dJ6_bitCount_0f7a4_45 : decode cJ6_bitCount_0f7a4 45 = .ok (.iushr, 1) := by decide +kernel
theorem dJ6_bitCount_0f7a4_46 : decode cJ6_bitCount_0f7a4 46 = .ok (.iadd, 1) := by decide +kernel
theorem dJ6_bitCount_0f7a4_47 : decode cJ6_bitCount_0f7a4 47 = .ok (.istore_n 0, 1) := by decide +kernel
theorem dJ6_bitCount_0f7a4_48 : decode cJ6_bitCount_0f7a4 48 = .ok (.iload_n 0, 1) := by decide +kernel
theorem dJ6_bitCount_0f7a4_49 : decode cJ6_bitCount_0f7a4 49 = .ok (.bipush 63, 2) := by decide +kernel
theorem dJ6_bitCount_0f7a4_51 : decode cJ6_bitCount_0f7a4 51 = .ok (.iand, 1) := by decide +kernel
theorem dJ6_bitCount_0f7a4_52 : decode cJ6_bitCount_0f7a4 52 = .ok (.ireturn, 1) := by decide +kernel
def fJ6_bitCount_0f7a4 (σ : St) (p0 : Int32) : Option (St × Int32) := some (σ, (((((((p0 - (((p0.toUInt32 >>> (Int32.toUInt32 1 &&& Int32.toUInt32 31)).toInt32) &&& 1431655765)) &&& 858993459) + ((((p0 - (((p0.toUInt32 >>> (Int32.toUInt32 1 &&& Int32.toUInt32 31)).toInt32) &&& 1431655765)).toUInt32 >>> (Int32.toUInt32 2 &&& Int32.toUInt32 31)).toInt32) &&& 858993459)) + (((((p0 - (((p0.toUInt32 >>> (Int32.toUInt32 1 &&& Int32.toUInt32 31)).toInt32) &&& 1431655765)) &&& 858993459) + ((((p0 - (((p0.toUInt32 >>> (Int32.toUInt32 1 &&& Int32.toUInt32 31)).toInt32) &&& 1431655765)).toUInt32 >>> (Int32.toUInt32 2 &&& Int32.toUInt32 31)).toInt32) &&& 858993459)).toUInt32 >>> (Int32.toUInt32 4 &&& Int32.toUInt32 31)).toInt32)) &&& 252645135) + (((((((p0 - (((p0.toUInt32 >>> (Int32.toUInt32 1 &&& Int32.toUInt32 31)).toInt32) &&& 1431655765)) &&& 858993459) + ((((p0 - (((p0.toUInt32 >>> (Int32.toUInt32 1 &&& Int32.toUInt32 31)).toInt32) &&& 1431655765)).toUInt32 >>> (Int32.toUInt32 2 &&& Int32.toUInt32 31)).toInt32) &&& 858993459)) + (((((p0 - (((p0.toUInt32 >>> (Int32.toUInt32 1 &&& Int32.toUInt32 31)).toInt32) &&& 1431655765)) &&& 858993459) + ((((p0 - (((p0.toUInt32 >>> (Int32.toUInt32 1 &&& Int32.toUInt32 31)).toInt32) &&& 1431655765)).toUInt32 >>> (Int32.toUInt32 2 &&& Int32.toUInt32 31)).toInt32) &&& 858993459)).toUInt32 >>> (Int32.toUInt32 4 &&& Int32.toUInt32 31)).toInt32)) &&& 252645135).toUInt32 >>> (Int32.toUInt32 8 &&& Int32.toUInt32 31)).toInt32)) + ((((((((p0 - (((p0.toUInt32 >>> (Int32.toUInt32 1 &&& Int32.toUInt32 31)).toInt32) &&& 1431655765)) &&& 858993459) + ((((p0 - (((p0.toUInt32 >>> (Int32.toUInt32 1 &&& Int32.toUInt32 31)).toInt32) &&& 1431655765)).toUInt32 >>> (Int32.toUInt32 2 &&& Int32.toUInt32 31)).toInt32) &&& 858993459)) + (((((p0 - (((p0.toUInt32 >>> (Int32.toUInt32 1 &&& Int32.toUInt32 31)).toInt32) &&& 1431655765)) &&& 858993459) + ((((p0 - (((p0.toUInt32 >>> (Int32.toUInt32 1 &&& Int32.toUInt32 31)).toInt32) &&& 1431655765)).toUInt32 >>> (Int32.toUInt32 2 &&& Int32.toUInt32 31)).toInt32) &&& 858993459)).toUInt32 >>> (Int32.toUInt32 4 &&& Int32.toUInt32 31)).toInt32)) &&& 252645135) + (((((((p0 - (((p0.toUInt32 >>> (Int32.toUInt32 1 &&& Int32.toUInt32 31)).toInt32) &&& 1431655765)) &&& 858993459) + ((((p0 - (((p0.toUInt32 >>> (Int32.toUInt32 1 &&& Int32.toUInt32 31)).toInt32) &&& 1431655765)).toUInt32 >>> (Int32.toUInt32 2 &&& Int32.toUInt32 31)).toInt32) &&& 858993459)) + (((((p0 - (((p0.toUInt32 >>> (Int32.toUInt32 1 &&& Int32.toUInt32 31)).toInt32) &&& 1431655765)) &&& 858993459) + ((((p0 - (((p0.toUInt32 >>> (Int32.toUInt32 1 &&& Int32.toUInt32 31)).toInt32) &&& 1431655765)).toUInt32 >>> (Int32.toUInt32 2 &&& Int32.toUInt32 31)).toInt32) &&& 858993459)).toUInt32 >>> (Int32.toUInt32 4 &&& Int32.toUInt32 31)).toInt32)) &&& 252645135).toUInt32 >>> (Int32.toUInt32 8 &&& Int32.toUInt32 31)).toInt32)).toUInt32 >>> (Int32.toUInt32 16 &&& Int32.toUInt32 31)).toInt32)) &&& 63)
set_option maxHeartbeats 4000000 in
set_option maxRecDepth 100000 in
theorem ctJ6_bitCount_0f7a4 (l : Launch) (g : GG) (σ : St) (p0 : Int32) (σ' : St) (r : Int32) (hE : fJ6_bitCount_0f7a4 σ p0 = some (σ', r)) : MI 52 entC l g yJ6_bitCount_0f7a4 (Cond.code yJ6_bitCount_0f7a4 cJ6_bitCount_0f7a4 1 (some .int) :: gtbl) (rmD 1) [.int p0] σ σ' r := by
  refine mi_i (own := RJ6) (lv := [(0, .int p0)]) (by decide) rfl (Nat.le_of_ble_eq_true rfl) rfl (fun p e s m below meth c ls args Q A H0 H locs C hK hA hQ hs hl => ?_)
  have hx := C.1
  have hb := C.2.1
  unfold fJ6_bitCount_0f7a4 at hE
  refine lv_iload_n hx hb dJ6_bitCount_0f7a4_0 rfl (lv_at hl 0 rfl) ?_
  refine lv_iload_n hx hb dJ6_bitCount_0f7a4_1 rfl (lv_at hl 0 rfl) ?_
  refine lv_iconst (v := 1) hx hb dJ6_bitCount_0f7a4_2 (by decide) ?_
  refine lv_iushr (v := (p0.toUInt32 >>> (Int32.toUInt32 1 &&& Int32.toUInt32 31)).toInt32) hx hb dJ6_bitCount_0f7a4_3 rfl ?_
  refine lv_ldcw (v := 1431655765) hx hb C.2.2.2.1 (C.2.2.2.2 _ mw_757) dJ6_bitCount_0f7a4_4 ?_
  refine lv_iand hx hb dJ6_bitCount_0f7a4_7 ?_
  refine lv_isub hx hb dJ6_bitCount_0f7a4_8 ?_
  refine lv_istore_n (lv' := [(0, .int (p0 - (((p0.toUInt32 >>> (Int32.toUInt32 1 &&& Int32.toUInt32 31)).toInt32) &&& 1431655765)))]) hx hb dJ6_bitCount_0f7a4_9 rfl hl (by decide) rfl (fun ls hl => ?_)
  refine lv_iload_n hx hb dJ6_bitCount_0f7a4_10 rfl (lv_at hl 0 rfl) ?_
  refine lv_ldcw (v := 858993459) hx hb C.2.2.2.1 (C.2.2.2.2 _ mw_758) dJ6_bitCount_0f7a4_11 ?_
  refine lv_iand hx hb dJ6_bitCount_0f7a4_14 ?_
  refine lv_iload_n hx hb dJ6_bitCount_0f7a4_15 rfl (lv_at hl 0 rfl) ?_
  refine lv_iconst (v := 2) hx hb dJ6_bitCount_0f7a4_16 (by decide) ?_
  refine lv_iushr (v := ((p0 - (((p0.toUInt32 >>> (Int32.toUInt32 1 &&& Int32.toUInt32 31)).toInt32) &&& 1431655765)).toUInt32 >>> (Int32.toUInt32 2 &&& Int32.toUInt32 31)).toInt32) hx hb dJ6_bitCount_0f7a4_17 rfl ?_
  refine lv_ldcw (v := 858993459) hx hb C.2.2.2.1 (C.2.2.2.2 _ mw_758) dJ6_bitCount_0f7a4_18 ?_
  refine lv_iand hx hb dJ6_bitCount_0f7a4_21 ?_
  refine lv_iadd hx hb dJ6_bitCount_0f7a4_22 ?_
  refine lv_istore_n (lv' := [(0, .int (((p0 - (((p0.toUInt32 >>> (Int32.toUInt32 1 &&& Int32.toUInt32 31)).toInt32) &&& 1431655765)) &&& 858993459) + ((((p0 - (((p0.toUInt32 >>> (Int32.toUInt32 1 &&& Int32.toUInt32 31)).toInt32) &&& 1431655765)).toUInt32 >>> (Int32.toUInt32 2 &&& Int32.toUInt32 31)).toInt32) &&& 858993459)))]) hx hb dJ6_bitCount_0f7a4_23 rfl hl (by decide) rfl (fun ls hl => ?_)
  refine lv_iload_n hx hb dJ6_bitCount_0f7a4_24 rfl (lv_at hl 0 rfl) ?_
  refine lv_iload_n hx hb dJ6_bitCount_0f7a4_25 rfl (lv_at hl 0 rfl) ?_
  refine lv_iconst (v := 4) hx hb dJ6_bitCount_0f7a4_26 (by decide) ?_
  refine lv_iushr (v := ((((p0 - (((p0.toUInt32 >>> (Int32.toUInt32 1 &&& Int32.toUInt32 31)).toInt32) &&& 1431655765)) &&& 858993459) + ((((p0 - (((p0.toUInt32 >>> (Int32.toUInt32 1 &&& Int32.toUInt32 31)).toInt32) &&& 1431655765)).toUInt32 >>> (Int32.toUInt32 2 &&& Int32.toUInt32 31)).toInt32) &&& 858993459)).toUInt32 >>> (Int32.toUInt32 4 &&& Int32.toUInt32 31)).toInt32) hx hb dJ6_bitCount_0f7a4_27 rfl ?_
  refine lv_iadd hx hb dJ6_bitCount_0f7a4_28 ?_
  refine lv_ldcw (v := 252645135) hx hb C.2.2.2.1 (C.2.2.2.2 _ mw_759) dJ6_bitCount_0f7a4_29 ?_
  refine lv_iand hx hb dJ6_bitCount_0f7a4_32 ?_
  refine lv_istore_n (lv' := [(0, .int (((((p0 - (((p0.toUInt32 >>> (Int32.toUInt32 1 &&& Int32.toUInt32 31)).toInt32) &&& 1431655765)) &&& 858993459) + ((((p0 - (((p0.toUInt32 >>> (Int32.toUInt32 1 &&& Int32.toUInt32 31)).toInt32) &&& 1431655765)).toUInt32 >>> (Int32.toUInt32 2 &&& Int32.toUInt32 31)).toInt32) &&& 858993459)) + (((((p0 - (((p0.toUInt32 >>> (Int32.toUInt32 1 &&& Int32.toUInt32 31)).toInt32) &&& 1431655765)) &&& 858993459) + ((((p0 - (((p0.toUInt32 >>> (Int32.toUInt32 1 &&& Int32.toUInt32 31)).toInt32) &&& 1431655765)).toUInt32 >>> (Int32.toUInt32 2 &&& Int32.toUInt32 31)).toInt32) &&& 858993459)).toUInt32 >>> (Int32.toUInt32 4 &&& Int32.toUInt32 31)).toInt32)) &&& 252645135))]) hx hb dJ6_bitCount_0f7a4_33 rfl hl (by decide) rfl (fun ls hl => ?_)
  refine lv_iload_n hx hb dJ6_bitCount_0f7a4_34 rfl (lv_at hl 0 rfl) ?_
  refine lv_iload_n hx hb dJ6_bitCount_0f7a4_35 rfl (lv_at hl 0 rfl) ?_
  refine lv_bipush (v := 8) hx hb dJ6_bitCount_0f7a4_36 (by decide) ?_
  refine lv_iushr (v := ((((((p0 - (((p0.toUInt32 >>> (Int32.toUInt32 1 &&& Int32.toUInt32 31)).toInt32) &&& 1431655765)) &&& 858993459) + ((((p0 - (((p0.toUInt32 >>> (Int32.toUInt32 1 &&& Int32.toUInt32 31)).toInt32) &&& 1431655765)).toUInt32 >>> (Int32.toUInt32 2 &&& Int32.toUInt32 31)).toInt32) &&& 858993459)) + (((((p0 - (((p0.toUInt32 >>> (Int32.toUInt32 1 &&& Int32.toUInt32 31)).toInt32) &&& 1431655765)) &&& 858993459) + ((((p0 - (((p0.toUInt32 >>> (Int32.toUInt32 1 &&& Int32.toUInt32 31)).toInt32) &&& 1431655765)).toUInt32 >>> (Int32.toUInt32 2 &&& Int32.toUInt32 31)).toInt32) &&& 858993459)).toUInt32 >>> (Int32.toUInt32 4 &&& Int32.toUInt32 31)).toInt32)) &&& 252645135).toUInt32 >>> (Int32.toUInt32 8 &&& Int32.toUInt32 31)).toInt32) hx hb dJ6_bitCount_0f7a4_38 rfl ?_
  refine lv_iadd hx hb dJ6_bitCount_0f7a4_39 ?_
  refine lv_istore_n (lv' := [(0, .int ((((((p0 - (((p0.toUInt32 >>> (Int32.toUInt32 1 &&& Int32.toUInt32 31)).toInt32) &&& 1431655765)) &&& 858993459) + ((((p0 - (((p0.toUInt32 >>> (Int32.toUInt32 1 &&& Int32.toUInt32 31)).toInt32) &&& 1431655765)).toUInt32 >>> (Int32.toUInt32 2 &&& Int32.toUInt32 31)).toInt32) &&& 858993459)) + (((((p0 - (((p0.toUInt32 >>> (Int32.toUInt32 1 &&& Int32.toUInt32 31)).toInt32) &&& 1431655765)) &&& 858993459) + ((((p0 - (((p0.toUInt32 >>> (Int32.toUInt32 1 &&& Int32.toUInt32 31)).toInt32) &&& 1431655765)).toUInt32 >>> (Int32.toUInt32 2 &&& Int32.toUInt32 31)).toInt32) &&& 858993459)).toUInt32 >>> (Int32.toUInt32 4 &&& Int32.toUInt32 31)).toInt32)) &&& 252645135) + (((((((p0 - (((p0.toUInt32 >>> (Int32.toUInt32 1 &&& Int32.toUInt32 31)).toInt32) &&& 1431655765)) &&& 858993459) + ((((p0 - (((p0.toUInt32 >>> (Int32.toUInt32 1 &&& Int32.toUInt32 31)).toInt32) &&& 1431655765)).toUInt32 >>> (Int32.toUInt32 2 &&& Int32.toUInt32 31)).toInt32) &&& 858993459)) + (((((p0 - (((p0.toUInt32 >>> (Int32.toUInt32 1 &&& Int32.toUInt32 31)).toInt32) &&& 1431655765)) &&& 858993459) + ((((p0 - (((p0.toUInt32 >>> (Int32.toUInt32 1 &&& Int32.toUInt32 31)).toInt32) &&& 1431655765)).toUInt32 >>> (Int32.toUInt32 2 &&& Int32.toUInt32 31)).toInt32) &&& 858993459)).toUInt32 >>> (Int32.toUInt32 4 &&& Int32.toUInt32 31)).toInt32)) &&& 252645135).toUInt32 >>> (Int32.toUInt32 8 &&& Int32.toUInt32 31)).toInt32)))]) hx hb dJ6_bitCount_0f7a4_40 rfl hl (by decide) rfl (fun ls hl => ?_)
  refine lv_iload_n hx hb dJ6_bitCount_0f7a4_41 rfl (lv_at hl 0 rfl) ?_
  refine lv_iload_n hx hb dJ6_bitCount_0f7a4_42 rfl (lv_at hl 0 rfl) ?_
  refine lv_bipush (v := 16) hx hb dJ6_bitCount_0f7a4_43 (by decide) ?_
  refine lv_iushr (v := (((((((p0 - (((p0.toUInt32 >>> (Int32.toUInt32 1 &&& Int32.toUInt32 31)).toInt32) &&& 1431655765)) &&& 858993459) + ((((p0 - (((p0.toUInt32 >>> (Int32.toUInt32 1 &&& Int32.toUInt32 31)).toInt32) &&& 1431655765)).toUInt32 >>> (Int32.toUInt32 2 &&& Int32.toUInt32 31)).toInt32) &&& 858993459)) + (((((p0 - (((p0.toUInt32 >>> (Int32.toUInt32 1 &&& Int32.toUInt32 31)).toInt32) &&& 1431655765)) &&& 858993459) + ((((p0 - (((p0.toUInt32 >>> (Int32.toUInt32 1 &&& Int32.toUInt32 31)).toInt32) &&& 1431655765)).toUInt32 >>> (Int32.toUInt32 2 &&& Int32.toUInt32 31)).toInt32) &&& 858993459)).toUInt32 >>> (Int32.toUInt32 4 &&& Int32.toUInt32 31)).toInt32)) &&& 252645135) + (((((((p0 - (((p0.toUInt32 >>> (Int32.toUInt32 1 &&& Int32.toUInt32 31)).toInt32) &&& 1431655765)) &&& 858993459) + ((((p0 - (((p0.toUInt32 >>> (Int32.toUInt32 1 &&& Int32.toUInt32 31)).toInt32) &&& 1431655765)).toUInt32 >>> (Int32.toUInt32 2 &&& Int32.toUInt32 31)).toInt32) &&& 858993459)) + (((((p0 - (((p0.toUInt32 >>> (Int32.toUInt32 1 &&& Int32.toUInt32 31)).toInt32) &&& 1431655765)) &&& 858993459) + ((((p0 - (((p0.toUInt32 >>> (Int32.toUInt32 1 &&& Int32.toUInt32 31)).toInt32) &&& 1431655765)).toUInt32 >>> (Int32.toUInt32 2 &&& Int32.toUInt32 31)).toInt32) &&& 858993459)).toUInt32 >>> (Int32.toUInt32 4 &&& Int32.toUInt32 31)).toInt32)) &&& 252645135).toUInt32 >>> (Int32.toUInt32 8 &&& Int32.toUInt32 31)).toInt32)).toUInt32 >>> (Int32.toUInt32 16 &&& Int32.toUInt32 31)).toInt32) hx hb dJ6_bitCount_0f7a4_45 rfl ?_
  refine lv_iadd hx hb dJ6_bitCount_0f7a4_46 ?_
  refine lv_istore_n (lv' := [(0, .int (((((((p0 - (((p0.toUInt32 >>> (Int32.toUInt32 1 &&& Int32.toUInt32 31)).toInt32) &&& 1431655765)) &&& 858993459) + ((((p0 - (((p0.toUInt32 >>> (Int32.toUInt32 1 &&& Int32.toUInt32 31)).toInt32) &&& 1431655765)).toUInt32 >>> (Int32.toUInt32 2 &&& Int32.toUInt32 31)).toInt32) &&& 858993459)) + (((((p0 - (((p0.toUInt32 >>> (Int32.toUInt32 1 &&& Int32.toUInt32 31)).toInt32) &&& 1431655765)) &&& 858993459) + ((((p0 - (((p0.toUInt32 >>> (Int32.toUInt32 1 &&& Int32.toUInt32 31)).toInt32) &&& 1431655765)).toUInt32 >>> (Int32.toUInt32 2 &&& Int32.toUInt32 31)).toInt32) &&& 858993459)).toUInt32 >>> (Int32.toUInt32 4 &&& Int32.toUInt32 31)).toInt32)) &&& 252645135) + (((((((p0 - (((p0.toUInt32 >>> (Int32.toUInt32 1 &&& Int32.toUInt32 31)).toInt32) &&& 1431655765)) &&& 858993459) + ((((p0 - (((p0.toUInt32 >>> (Int32.toUInt32 1 &&& Int32.toUInt32 31)).toInt32) &&& 1431655765)).toUInt32 >>> (Int32.toUInt32 2 &&& Int32.toUInt32 31)).toInt32) &&& 858993459)) + (((((p0 - (((p0.toUInt32 >>> (Int32.toUInt32 1 &&& Int32.toUInt32 31)).toInt32) &&& 1431655765)) &&& 858993459) + ((((p0 - (((p0.toUInt32 >>> (Int32.toUInt32 1 &&& Int32.toUInt32 31)).toInt32) &&& 1431655765)).toUInt32 >>> (Int32.toUInt32 2 &&& Int32.toUInt32 31)).toInt32) &&& 858993459)).toUInt32 >>> (Int32.toUInt32 4 &&& Int32.toUInt32 31)).toInt32)) &&& 252645135).toUInt32 >>> (Int32.toUInt32 8 &&& Int32.toUInt32 31)).toInt32)) + ((((((((p0 - (((p0.toUInt32 >>> (Int32.toUInt32 1 &&& Int32.toUInt32 31)).toInt32) &&& 1431655765)) &&& 858993459) + ((((p0 - (((p0.toUInt32 >>> (Int32.toUInt32 1 &&& Int32.toUInt32 31)).toInt32) &&& 1431655765)).toUInt32 >>> (Int32.toUInt32 2 &&& Int32.toUInt32 31)).toInt32) &&& 858993459)) + (((((p0 - (((p0.toUInt32 >>> (Int32.toUInt32 1 &&& Int32.toUInt32 31)).toInt32) &&& 1431655765)) &&& 858993459) + ((((p0 - (((p0.toUInt32 >>> (Int32.toUInt32 1 &&& Int32.toUInt32 31)).toInt32) &&& 1431655765)).toUInt32 >>> (Int32.toUInt32 2 &&& Int32.toUInt32 31)).toInt32) &&& 858993459)).toUInt32 >>> (Int32.toUInt32 4 &&& Int32.toUInt32 31)).toInt32)) &&& 252645135) + (((((((p0 - (((p0.toUInt32 >>> (Int32.toUInt32 1 &&& Int32.toUInt32 31)).toInt32) &&& 1431655765)) &&& 858993459) + ((((p0 - (((p0.toUInt32 >>> (Int32.toUInt32 1 &&& Int32.toUInt32 31)).toInt32) &&& 1431655765)).toUInt32 >>> (Int32.toUInt32 2 &&& Int32.toUInt32 31)).toInt32) &&& 858993459)) + (((((p0 - (((p0.toUInt32 >>> (Int32.toUInt32 1 &&& Int32.toUInt32 31)).toInt32) &&& 1431655765)) &&& 858993459) + ((((p0 - (((p0.toUInt32 >>> (Int32.toUInt32 1 &&& Int32.toUInt32 31)).toInt32) &&& 1431655765)).toUInt32 >>> (Int32.toUInt32 2 &&& Int32.toUInt32 31)).toInt32) &&& 858993459)).toUInt32 >>> (Int32.toUInt32 4 &&& Int32.toUInt32 31)).toInt32)) &&& 252645135).toUInt32 >>> (Int32.toUInt32 8 &&& Int32.toUInt32 31)).toInt32)).toUInt32 >>> (Int32.toUInt32 16 &&& Int32.toUInt32 31)).toInt32)))]) hx hb dJ6_bitCount_0f7a4_47 rfl hl (by decide) rfl (fun ls hl => ?_)
  refine lv_iload_n hx hb dJ6_bitCount_0f7a4_48 rfl (lv_at hl 0 rfl) ?_
  refine lv_bipush (v := 63) hx hb dJ6_bitCount_0f7a4_49 (by decide) ?_
  refine lv_iand hx hb dJ6_bitCount_0f7a4_51 ?_
  exact hQ hs hE dJ6_bitCount_0f7a4_52
theorem dX4_gainWith_0 : decode cX4_gainWith 0 = .ok (.aload_n 1, 1) := by decide +kernel
theorem dX4_gainWith_1 : decode cX4_gainWith 1 = .ok (.getfield 78, 3) := by decide +kernel
theorem dX4_gainWith_4 : decode cX4_gainWith 4 = .ok (.iload_n 2, 1) := by decide +kernel
theorem dX4_gainWith_5 : decode cX4_gainWith 5 = .ok (.iaload, 1) := by decide +kernel
theorem dX4_gainWith_6 : decode cX4_gainWith 6 = .ok (.iload_n 3, 1) := by decide +kernel
theorem dX4_gainWith_7 : decode cX4_gainWith 7 = .ok (.iadd, 1) := by decide +kernel
theorem dX4_gainWith_8 : decode cX4_gainWith 8 = .ok (.istore 4, 2) := by decide +kernel
theorem dX4_gainWith_10 : decode cX4_gainWith 10 = .ok (.iload 4, 2) := by decide +kernel
theorem dX4_gainWith_12 : decode cX4_gainWith 12 = .ok (.invokestatic 81, 3) := by decide +kernel
theorem dX4_gainWith_15 : decode cX4_gainWith 15 = .ok (.ifCond .ne 5, 3) := by decide +kernel
theorem dX4_gainWith_18 : decode cX4_gainWith 18 = .ok (.iconst 0, 1) := by decide +kernel
theorem dX4_gainWith_19 : decode cX4_gainWith 19 = .ok (.ireturn, 1) := by decide +kernel
theorem dX4_gainWith_20 : decode cX4_gainWith 20 = .ok (.aload_n 0, 1) := by decide +kernel
theorem dX4_gainWith_21 : decode cX4_gainWith 21 = .ok (.aload_n 1, 1) := by decide +kernel
theorem dX4_gainWith_22 : decode cX4_gainWith 22 = .ok (.iload_n 2, 1) := by decide +kernel
theorem dX4_gainWith_23 : decode cX4_gainWith 23 = .ok (.iconst 1, 1) := by decide +kernel
theorem dX4_gainWith_24 : decode cX4_gainWith 24 = .ok (.iload 4, 2) := by decide +kernel
theorem dX4_gainWith_26 : decode cX4_gainWith 26 = .ok (.invokevirtual 85, 3) := by decide +kernel
theorem dX4_gainWith_29 : decode cX4_gainWith 29 = .ok (.invokestatic 89, 3) := by decide +kernel
theorem dX4_gainWith_32 : decode cX4_gainWith 32 = .ok (.ireturn, 1) := by decide +kernel
def fX4_gainWith (σ : St) (p2 : Int32) (p3 : Int32) : Option (St × Int32) := rd LC σ 33 p2 (fun x1 => cl (fX4_isPurse σ (x1 + p3)) (fun σ2 r3 => (if r3 = 0 then some (σ2, 0) else cl (fX4_basket σ2 p2 1 (x1 + p3)) (fun σ4 r5 => cl (fJ6_bitCount_0f7a4 σ4 r5) (fun σ6 r7 => some (σ6, r7))))))
set_option maxHeartbeats 4000000 in
set_option maxRecDepth 100000 in
theorem ctX4_gainWith (l : Launch) (g : GG) (σ : St) (p2 : Int32) (p3 : Int32) (σ' : St) (r : Int32) (hE : fX4_gainWith σ p2 p3 = some (σ', r)) : MI 52 entC l g yX4_gainWith (Cond.code yX4_gainWith cX4_gainWith 5 (some .int) :: gtbl) (rmD 5) [.ref (g.2.1 41), .ref (g.2.1 25), .int p2, .int p3] σ σ' r := by
  refine mi_i (own := RX4) (lv := [(0, .ref (g.2.1 41)), (1, .ref (g.2.1 25)), (2, .int p2), (3, .int p3)]) (by decide) rfl (Nat.le_of_ble_eq_true rfl) rfl (fun p e s m below meth c ls args Q A H0 H locs C hK hA hQ hs hl => ?_)
  have hx := C.1
  have hb := C.2.1
  unfold fX4_gainWith at hE
  refine lv_aload_n hx hb dX4_gainWith_0 rfl (lv_at hl 1 rfl) ?_
  refine gf_X4_78_25 C hK hs dX4_gainWith_1 ?_
  refine lv_iload_n hx hb dX4_gainWith_4 rfl (lv_at hl 2 rfl) ?_
  obtain ⟨hi, x1, ex1, hE⟩ := rd_w hE
  refine y_ald layC C hK hs hi ex1 dX4_gainWith_5 ?_
  refine lv_iload_n hx hb dX4_gainWith_6 rfl (lv_at hl 3 rfl) ?_
  refine lv_iadd hx hb dX4_gainWith_7 ?_
  refine lv_istore (lv' := [(4, .int (x1 + p3)), (0, .ref (g.2.1 41)), (1, .ref (g.2.1 25)), (2, .int p2), (3, .int p3)]) hx hb dX4_gainWith_8 hl (by decide) rfl (fun ls hl => ?_)
  refine lv_iload hx hb dX4_gainWith_10 (lv_at hl 0 rfl) ?_
  obtain ⟨σ2, r3, hE1, hE⟩ := cl_e hE
  refine x_cis (As := [.int (x1 + p3)]) (rest := []) C hl.1 hK hs hA ⟨Nat.le_refl 0, Nat.le_refl 0⟩ (ctX4_isPurse l g _ _ _ _ hE1) (cw_X4_81 C ⟨Nat.le_of_ble_eq_true rfl, Nat.le_of_ble_eq_true rfl⟩) rfl rfl (Nat.le_of_ble_eq_true rfl) dX4_gainWith_12 (fun H locs hs => ?_)
  refine lv_if_ne (tgt := 20) hx hb dX4_gainWith_15 (by decide) (fun hc => ?_) (fun hc => ?_)
  · have hE := if_f hc hE
    refine lv_aload_n hx hb dX4_gainWith_20 rfl (lv_at hl 1 rfl) ?_
    refine lv_aload_n hx hb dX4_gainWith_21 rfl (lv_at hl 2 rfl) ?_
    refine lv_iload_n hx hb dX4_gainWith_22 rfl (lv_at hl 3 rfl) ?_
    refine lv_iconst (v := 1) hx hb dX4_gainWith_23 (by decide) ?_
    refine lv_iload hx hb dX4_gainWith_24 (lv_at hl 0 rfl) ?_
    obtain ⟨σ4, r5, hE1, hE⟩ := cl_e hE
    refine x_civ (As := [.ref (g.2.1 25), .int p2, .int 1, .int (x1 + p3)]) (rest := []) C hl.1 hK hs hA ⟨Nat.le_refl 0, Nat.le_refl 0⟩ (ctX4_basket l g _ _ _ _ _ _ hE1) (cw_X4_85 C ⟨Nat.le_of_ble_eq_true rfl, Nat.le_of_ble_eq_true rfl⟩) (hs.recv hK 41 (by decide) rfl rfl) rfl rfl (Nat.le_of_ble_eq_true rfl) dX4_gainWith_26 (fun H locs hs => ?_)
    obtain ⟨σ6, r7, hE1, hE⟩ := cl_e hE
    refine x_cis (As := [.int r5]) (rest := []) C hl.1 hK hs hA ⟨Nat.le_refl 0, Nat.le_refl 0⟩ (ctJ6_bitCount_0f7a4 l g _ _ _ _ hE1) (cw_X4_89 C ⟨Nat.le_of_ble_eq_true rfl, Nat.le_of_ble_eq_true rfl⟩) rfl rfl (Nat.le_of_ble_eq_true rfl) dX4_gainWith_29 (fun H locs hs => ?_)
    exact hQ hs hE dX4_gainWith_32
  · have hE := if_t hc hE
    refine lv_iconst (v := 0) hx hb dX4_gainWith_18 (by decide) ?_
    exact hQ hs hE dX4_gainWith_19
theorem dX4_slot_0 : decode cX4_slot 0 = .ok (.iload_n 0, 1) := by decide +kernel
theorem dX4_slot_1 : decode cX4_slot 1 = .ok (.bipush 7, 2) := by decide +kernel
theorem dX4_slot_3 : decode cX4_slot 3 = .ok (.imul, 1) := by decide +kernel
theorem dX4_slot_4 : decode cX4_slot 4 = .ok (.iload_n 1, 1) := by decide +kernel
theorem dX4_slot_5 : decode cX4_slot 5 = .ok (.iadd, 1) := by decide +kernel
theorem dX4_slot_6 : decode cX4_slot 6 = .ok (.iconst 3, 1) := by decide +kernel
theorem dX4_slot_7 : decode cX4_slot 7 = .ok (.iadd, 1) := by decide +kernel
theorem dX4_slot_8 : decode cX4_slot 8 = .ok (.ireturn, 1) := by decide +kernel
def fX4_slot (σ : St) (p0 : Int32) (p1 : Int32) : Option (St × Int32) := some (σ, ((p0 * 7) + p1) + 3)
set_option maxHeartbeats 4000000 in
set_option maxRecDepth 100000 in
theorem ctX4_slot (l : Launch) (g : GG) (σ : St) (p0 : Int32) (p1 : Int32) (σ' : St) (r : Int32) (hE : fX4_slot σ p0 p1 = some (σ', r)) : MI 52 entC l g yX4_slot (Cond.code yX4_slot cX4_slot 2 (some .int) :: gtbl) (rmD 1) [.int p0, .int p1] σ σ' r := by
  refine mi_i (own := RX4) (lv := [(0, .int p0), (1, .int p1)]) (by decide) rfl (Nat.le_of_ble_eq_true rfl) rfl (fun p e s m below meth c ls args Q A H0 H locs C hK hA hQ hs hl => ?_)
  have hx := C.1
  have hb := C.2.1
  unfold fX4_slot at hE
  refine lv_iload_n hx hb dX4_slot_0 rfl (lv_at hl 0 rfl) ?_
  refine lv_bipush (v := 7) hx hb dX4_slot_1 (by decide) ?_
  refine lv_imul hx hb dX4_slot_3 ?_
  refine lv_iload_n hx hb dX4_slot_4 rfl (lv_at hl 1 rfl) ?_
  refine lv_iadd hx hb dX4_slot_5 ?_
  refine lv_iconst (v := 3) hx hb dX4_slot_6 (by decide) ?_
  refine lv_iadd hx hb dX4_slot_7 ?_
  exact hQ hs hE dX4_slot_8
