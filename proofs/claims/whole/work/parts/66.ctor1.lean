def entF (n : Nat) : EN := fun g σ k => match k with
  | 0 => .inl (g.2.2.1, n, .inl (σ.1 0))
  | _ => .inl (g.2.2.1, 0, .inl (fun _ => 0))
def LF (n : Nat) : Nat → Nat := fun k => match k with
  | 0 => n
  | _ => 0
theorem layF (n : Nat) : Lay 1 (entF n) (LF n) := by
  refine ⟨fun g σ k h => ?_, fun g σ τ j h1 h2 => ?_⟩
  · match k, h with
    | 0, h => exact ⟨by decide, rfl⟩
    | k + 1, h => exact absurd rfl h
  · match j, h1, h2 with
    | 0, h1, h2 => exact (by simp only [entF, h1])
    | k + 1, h1, h2 => exact rfl
def fJ7_fillF_L5 (nn : Nat) (p0 : Nat) (p1 : Int32) (w1 : Int32) : Nat → St → Int32 → (St → Int32 → Option (St × Unit)) → Option (St × Unit)
  | 0, _, _, _ => none
  | n + 1, σ2, v3, k => (if w1 ≤ v3 then k σ2 v3 else wr (LF nn) σ2 p0 v3 p1 (fun σ4 => fJ7_fillF_L5 nn p0 p1 w1 n σ4 (v3 + 1) k))
def fJ7_fillF (nn : Nat) (σ : St) (p0 : Nat) (p1 : Int32) : Option (St × Unit) := gd (decide ((LF nn) p0 ≠ 0)) (pv (nI ((LF nn) p0)) (fun (w1 : Int32) => fJ7_fillF_L5 nn p0 p1 w1 10000 σ 0 (fun σ5 v6 => some (σ5, ()))))
set_option maxHeartbeats 4000000 in
set_option maxRecDepth 100000 in
theorem ctJ7_fillF (nn : Nat) (l : Launch) (g : GG) (σ : St) (p0 : Nat) (p1 : Int32) (σ' : St) (r : Unit) (hE : fJ7_fillF nn σ p0 p1 = some (σ', r)) : MV 1 (entF nn) l g yJ7_fill_53178 (Cond.code yJ7_fill_53178 cJ7_fill_53178 4 none :: gtbl) (rmD 1) [.ref (g.2.1 p0), .int p1] σ σ' := by
  refine mi_v (own := RJ7) (lv := [(0, .ref (g.2.1 p0)), (1, .int p1)]) (by decide) rfl (Nat.le_of_ble_eq_true rfl) rfl (fun p e s m below meth c ls args Q A H0 H locs C hK hA hQ hs hl => ?_)
  have hx := C.1
  have hb := C.2.1
  unfold fJ7_fillF at hE
  refine lv_iconst (v := 0) hx hb dJ7_fill_53178_0 (by decide) ?_
  refine lv_istore_n (lv' := [(2, .int 0), (0, .ref (g.2.1 p0)), (1, .int p1)]) hx hb dJ7_fill_53178_1 rfl hl (by decide) rfl (fun ls hl => ?_)
  refine lv_aload_n hx hb dJ7_fill_53178_2 rfl (lv_at hl 1 rfl) ?_
  obtain ⟨hc, hE⟩ := gd_e hE
  refine x_len (layF nn) C hK hs (of_decide_eq_true hc) dJ7_fill_53178_3 ?_
  refine lv_istore_n (lv' := [(3, .int (nI ((LF nn) p0))), (2, .int 0), (0, .ref (g.2.1 p0)), (1, .int p1)]) hx hb dJ7_fill_53178_4 rfl hl (by decide) rfl (fun ls hl => ?_)
  obtain ⟨w1, ew1, hE⟩ := pv_w hE
  have hl : lv_has ls 4 [(3, .int w1), (2, .int 0), (0, .ref (g.2.1 p0)), (1, .int p1)] := by rw [ew1]; exact hl
  have hL5 : ∀ (n : Nat) (σ2 : St) (v3 : Int32) (k : St → Int32 → Option (St × Unit)), fJ7_fillF_L5 nn p0 p1 w1 n σ2 v3 k = some (σ', r) → (∀ (σ2 : St) (v3 : Int32) (H : Heap) (locs : List Loc) (ls : Array Slot), HW 1 (entF nn) g A H0 H locs σ2 → lv_has ls 4 [(0, .ref (g.2.1 p0)), (1, .int p1), (2, .int v3), (3, .int w1)] → k σ2 v3 = some (σ', r) → W p l e (rmD 1) s m args below meth c H locs 0 0 Q (F0 m 20 ls [])) → ∀ (H : Heap) (locs : List Loc) (ls : Array Slot), HW 1 (entF nn) g A H0 H locs σ2 → lv_has ls 4 [(0, .ref (g.2.1 p0)), (1, .int p1), (2, .int v3), (3, .int w1)] → W p l e (rmD 1) s m args below meth c H locs 0 0 Q (F0 m 5 ls []) := by
    intro n
    induction n with
    | zero =>
      intro σ2 v3 k hE
      rw [fJ7_fillF_L5] at hE
      exact no_e hE
    | succ n ih =>
      intro σ2 v3 k hE hk H locs ls hs hl
      rw [fJ7_fillF_L5] at hE
      refine lv_iload_n hx hb dJ7_fill_53178_5 rfl (lv_at hl 2 rfl) ?_
      refine lv_iload_n hx hb dJ7_fill_53178_6 rfl (lv_at hl 3 rfl) ?_
      refine lv_icmp_ge (tgt := 20) hx hb dJ7_fill_53178_7 (by decide) (fun hc => ?_) (fun hc => ?_)
      · have hE := if_t hc hE
        exact hk σ2 v3 _ _ _ hs (lv_sub hl [0, 1, 2, 3] rfl) hE
      · have hE := if_f hc hE
        refine lv_aload_n hx hb dJ7_fill_53178_10 rfl (lv_at hl 0 rfl) ?_
        refine lv_iload_n hx hb dJ7_fill_53178_11 rfl (lv_at hl 2 rfl) ?_
        refine lv_iload_n hx hb dJ7_fill_53178_12 rfl (lv_at hl 1 rfl) ?_
        obtain ⟨hi, σ4, eσ4, hE⟩ := wr_w hE
        refine y_ast (layF nn) C hK hs hi eσ4 dJ7_fill_53178_13 (fun H locs hs => ?_)
        refine lv_iinc (v := v3 + 1) (lv' := [(2, .int (v3 + 1)), (0, .ref (g.2.1 p0)), (1, .int p1), (3, .int w1)]) hx hb dJ7_fill_53178_14 hl (k := 2) rfl rfl (by decide) rfl (fun ls hl => ?_)
        refine lv_goto (tgt := 5) hx hb dJ7_fill_53178_17 (by decide) ?_
        exact ih _ _ _ hE hk _ _ _ hs (lv_sub hl [1, 2, 0, 3] rfl)
  refine hL5 _ _ _ _ hE (fun σ5 v6 H locs ls hs hl hE => ?_) H locs ls hs (lv_sub hl [2, 3, 1, 0] rfl)
  exact hQ hs hE dJ7_fill_53178_20
theorem fillF_loop (nn : Nat) (p1 : Int32) (hnn : nn < 2 ^ 31) : ∀ (m i fuel : Nat) (σ : St) (k : St → Int32 → Option (St × Unit)), i + m = nn → m < fuel → fJ7_fillF_L5 nn 0 p1 (nI nn) fuel σ (nI i) k = k (sc σ 0 (fun j => if i ≤ j ∧ j < nn then p1 else σ.1 0 j)) (nI nn) := by
  intro m
  induction m with
  | zero =>
    intro i fuel σ k hi hf
    match fuel, hf with
    | f + 1, _ =>
      rw [fJ7_fillF_L5, if_pos (nI_le (by omega) (by omega)), show i = nn by omega]
      congr 1
      refine st_ext (fun a j => ?_) (fun _ _ => rfl)
      rw [sc_11]
      by_cases ha : a = 0
      · rw [if_pos ha, if_neg (by omega), ha]
      · rw [if_neg ha]
  | succ m ih =>
    intro i fuel σ k hi hf
    match fuel, hf with
    | f + 1, hf =>
      rw [fJ7_fillF_L5, if_neg (nI_ge (by omega) (by omega))]
      unfold wr
      rw [if_pos (inb_nI (show i < LF nn 0 by show i < nn; omega) (show LF nn 0 < 2 ^ 31 from hnn)), nI_clamp (by omega), nI_1]
      show fJ7_fillF_L5 nn 0 p1 (nI nn) f (su σ 0 i p1) (nI (i + 1)) k = _
      rw [ih (i + 1) f _ k (by omega) (by omega)]
      congr 1
      refine st_ext (fun a j => ?_) (fun _ _ => rfl)
      rw [sc_11, sc_11, su_11, su_11]
      by_cases ha : a = 0
      · rw [if_pos ha, if_pos ha]
        by_cases hj : j = i
        · subst hj
          rw [if_neg (by omega), if_pos (by omega), if_pos (by omega)]
        · by_cases h2 : i + 1 ≤ j ∧ j < nn
          · rw [if_pos h2, if_pos (by omega)]
          · rw [if_neg h2, if_neg (by omega), if_neg (by omega)]
      · rw [if_neg ha, if_neg ha, if_neg (by omega)]
theorem fillF_ev (nn : Nat) (p1 : Int32) (h0 : nn ≠ 0) (hnn : nn < 10000) (σ : St) : fJ7_fillF nn σ 0 p1 = some (sc σ 0 (fun j => if j < nn then p1 else σ.1 0 j), ()) := by
  unfold fJ7_fillF
  unfold gd
  rw [if_pos (decide_eq_true (show LF nn 0 ≠ 0 from h0))]
  unfold pv
  show fJ7_fillF_L5 nn 0 p1 (nI nn) 10000 σ (nI 0) _ = _
  rw [fillF_loop nn p1 (by omega) nn 0 10000 σ _ (by omega) hnn]
  simp
section ZF
variable {p : Program} {l : Launch} {e : Env} {R : Room} {s : State} {m : MethodId} {args : Array Value} {below : List Frame} {meth : Method} {c : Code} {H : Heap} {locs : List Loc} {cells slots : Nat} {Q : State → Prop}
variable {cc : ByteArray} {pc nL : Nat} {ls : Array Slot} {rest : List Value} {A : Nat → Prop} {H0 : Heap} {g : GG} {own : String} {ws : va_W} {a index : Nat} {v : Int32} {f : Nat → Int32}
theorem z_fill {nn : Nat} (C : CallFix p m c cc nL s args gtbl own) (hls : ls.size = nL) (hK : KS g s) (hP : va_P g.1 clsL ws H) (hD : va_D A ws) (hS : va_S A H0 H locs) (hA : ∀ q, H0.size ≤ q → A q) (hf : cells + 0 ≤ R.cells ∧ slots + 0 ≤ R.slots) (cw : CallB R s args own index yJ7_fill_53178 cJ7_fill_53178 4 none (Cond.code yJ7_fill_53178 cJ7_fill_53178 4 none :: gtbl) (rmD 1) 0 0 2 ∧ (Cond.static yJ7_fill_53178).before args s = true) (q0 : Nat) (ha : ws[q0]? = some (a, .inl (g.2.2.1, nn, .inl f))) (h0 : nn ≠ 0) (hnn : nn < 10000) (hW : (rest.map fun v => v.category).sum ≤ 8) (hdg : decode cc pc = .ok (.invokestatic index, 3)) (kk : ∀ (H1 : Heap) (locs1 : List Loc), va_P g.1 clsL (ws.set q0 (a, .inl (g.2.2.1, nn, .inl (fun j => if j < nn then v else f j)))) H1 → va_D A (ws.set q0 (a, .inl (g.2.2.1, nn, .inl (fun j => if j < nn then v else f j)))) → va_S A H0 H1 locs1 → W p l e R s m args below meth c H1 locs1 cells slots Q (F0 m (pc + 3) ls rest)) : W p l e R s m args below meth c H locs cells slots Q (F0 m pc ls (.int v :: .ref a :: rest)) := by
  have hs : HW 1 (entF nn) (g.1, fun _ => a, g.2.2) A H0 H locs (fun _ => f, fun _ _ => 0) := by
    refine ⟨fun k q hk => ?_, ⟨fun i j x y hi hj _ => ?_, fun k q hk => ?_⟩, hS⟩
    · obtain ⟨h1, rfl⟩ := wl_inv hk
      rw [show k = 0 by omega]
      exact hP q0 _ ha
    · have := (wl_inv hi).1
      have := (wl_inv hj).1
      omega
    · obtain ⟨h1, rfl⟩ := wl_inv hk
      show A a
      exact hD.2 q0 (a, _) ha
  have hK2 : KS (g.1, fun _ => a, g.2.2) s := hK
  refine va_callv (va_runS (As := [.ref a, .int v]) C (ctJ7_fillF nn l (g.1, fun _ => a, g.2.2) (fun _ => f, fun _ _ => 0) 0 v _ () (fillF_ev nn v h0 hnn _) H.size) cw ⟨PreW_blind, hs.pre hK2⟩ rfl rfl hls rfl (lv_room hW) hdg hf) hS (fun q _ h => hs.free hA q h) (hs.free hA) (fun u t H1 locs1 ht hvm hw hB _ hk hS1 => ?_)
  obtain rfl := hw
  rw [BW, ht] at hB
  have h1 := hB 0 (a, entF nn (g.1, fun _ => a, g.2.2) _ 0) (wl_get (by omega))
  refine kk H1 locs1 (fun k q hq => ?_) (hD.set ha) hS1
  by_cases hkq : k = q0
  · subst hkq
    have hlt : k < ws.length := (List.getElem?_eq_some_iff.mp ha).1
    rw [List.getElem?_set_self hlt] at hq
    cases hq
    exact h1
  · rw [List.getElem?_set_ne (fun h => hkq h.symm)] at hq
    refine (hP k q hq).kept (hk _ ((hP k q hq).lt) (fun h => ?_))
    rcases h with ⟨j, _, e1⟩ | h
    · exact hkq (hD.1 k q0 q _ hq ha e1)
    · exact absurd ((hP k q hq).lt) (Nat.not_lt.mpr h)
end ZF

theorem dX6_init_0 : decode cX6_init 0 = .ok (.aload_n 0, 1) := by decide +kernel
theorem dX6_init_1 : decode cX6_init 1 = .ok (.invokespecial 1, 3) := by decide +kernel
theorem dX6_init_4 : decode cX6_init 4 = .ok (.aload_n 0, 1) := by decide +kernel
theorem dX6_init_5 : decode cX6_init 5 = .ok (.bipush 56, 2) := by decide +kernel
theorem dX6_init_7 : decode cX6_init 7 = .ok (.newarray .int, 2) := by decide +kernel
theorem dX6_init_9 : decode cX6_init 9 = .ok (.putfield 9, 3) := by decide +kernel
theorem dX6_init_12 : decode cX6_init 12 = .ok (.aload_n 0, 1) := by decide +kernel
theorem dX6_init_13 : decode cX6_init 13 = .ok (.bipush 8, 2) := by decide +kernel
theorem dX6_init_15 : decode cX6_init 15 = .ok (.newarray .int, 2) := by decide +kernel
theorem dX6_init_17 : decode cX6_init 17 = .ok (.putfield 13, 3) := by decide +kernel
theorem dX6_init_20 : decode cX6_init 20 = .ok (.aload_n 0, 1) := by decide +kernel
theorem dX6_init_21 : decode cX6_init 21 = .ok (.bipush 8, 2) := by decide +kernel
theorem dX6_init_23 : decode cX6_init 23 = .ok (.newarray .int, 2) := by decide +kernel
theorem dX6_init_25 : decode cX6_init 25 = .ok (.putfield 16, 3) := by decide +kernel
theorem dX6_init_28 : decode cX6_init 28 = .ok (.aload_n 0, 1) := by decide +kernel
theorem dX6_init_29 : decode cX6_init 29 = .ok (.bipush 8, 2) := by decide +kernel
theorem dX6_init_31 : decode cX6_init 31 = .ok (.newarray .int, 2) := by decide +kernel
theorem dX6_init_33 : decode cX6_init 33 = .ok (.putfield 19, 3) := by decide +kernel
theorem dX6_init_36 : decode cX6_init 36 = .ok (.aload_n 0, 1) := by decide +kernel
theorem dX6_init_37 : decode cX6_init 37 = .ok (.bipush 6, 2) := by decide +kernel
theorem dX6_init_39 : decode cX6_init 39 = .ok (.newarray .int, 2) := by decide +kernel
theorem dX6_init_41 : decode cX6_init 41 = .ok (.putfield 22, 3) := by decide +kernel
theorem dX6_init_44 : decode cX6_init 44 = .ok (.aload_n 0, 1) := by decide +kernel
theorem dX6_init_45 : decode cX6_init 45 = .ok (.bipush 6, 2) := by decide +kernel
theorem dX6_init_47 : decode cX6_init 47 = .ok (.newarray .int, 2) := by decide +kernel
theorem dX6_init_49 : decode cX6_init 49 = .ok (.putfield 25, 3) := by decide +kernel
theorem dX6_init_52 : decode cX6_init 52 = .ok (.return_, 1) := by decide +kernel
theorem dX9_init_0 : decode cX9_init 0 = .ok (.aload_n 0, 1) := by decide +kernel
theorem dX9_init_1 : decode cX9_init 1 = .ok (.invokespecial 1, 3) := by decide +kernel
theorem dX9_init_4 : decode cX9_init 4 = .ok (.aload_n 0, 1) := by decide +kernel
theorem dX9_init_5 : decode cX9_init 5 = .ok (.new 7, 3) := by decide +kernel
theorem dX9_init_8 : decode cX9_init 8 = .ok (.dup, 1) := by decide +kernel
theorem dX9_init_9 : decode cX9_init 9 = .ok (.invokespecial 9, 3) := by decide +kernel
theorem dX9_init_12 : decode cX9_init 12 = .ok (.putfield 10, 3) := by decide +kernel
theorem dX9_init_15 : decode cX9_init 15 = .ok (.aload_n 0, 1) := by decide +kernel
theorem dX9_init_16 : decode cX9_init 16 = .ok (.bipush 6, 2) := by decide +kernel
theorem dX9_init_18 : decode cX9_init 18 = .ok (.newarray .int, 2) := by decide +kernel
theorem dX9_init_20 : decode cX9_init 20 = .ok (.putfield 16, 3) := by decide +kernel
theorem dX9_init_23 : decode cX9_init 23 = .ok (.aload_n 0, 1) := by decide +kernel
theorem dX9_init_24 : decode cX9_init 24 = .ok (.bipush 48, 2) := by decide +kernel
theorem dX9_init_26 : decode cX9_init 26 = .ok (.newarray .int, 2) := by decide +kernel
theorem dX9_init_28 : decode cX9_init 28 = .ok (.putfield 20, 3) := by decide +kernel
theorem dX9_init_31 : decode cX9_init 31 = .ok (.return_, 1) := by decide +kernel
theorem dX8_init_0 : decode cX8_init 0 = .ok (.aload_n 0, 1) := by decide +kernel
theorem dX8_init_1 : decode cX8_init 1 = .ok (.invokespecial 3, 3) := by decide +kernel
theorem dX8_init_4 : decode cX8_init 4 = .ok (.aload_n 0, 1) := by decide +kernel
theorem dX8_init_5 : decode cX8_init 5 = .ok (.bipush 8, 2) := by decide +kernel
theorem dX8_init_7 : decode cX8_init 7 = .ok (.newarray .int, 2) := by decide +kernel
theorem dX8_init_9 : decode cX8_init 9 = .ok (.putfield 11, 3) := by decide +kernel
theorem dX8_init_12 : decode cX8_init 12 = .ok (.aload_n 0, 1) := by decide +kernel
theorem dX8_init_13 : decode cX8_init 13 = .ok (.bipush 8, 2) := by decide +kernel
theorem dX8_init_15 : decode cX8_init 15 = .ok (.newarray .int, 2) := by decide +kernel
theorem dX8_init_17 : decode cX8_init 17 = .ok (.putfield 17, 3) := by decide +kernel
theorem dX8_init_20 : decode cX8_init 20 = .ok (.aload_n 0, 1) := by decide +kernel
theorem dX8_init_21 : decode cX8_init 21 = .ok (.bipush 8, 2) := by decide +kernel
theorem dX8_init_23 : decode cX8_init 23 = .ok (.newarray .int, 2) := by decide +kernel
theorem dX8_init_25 : decode cX8_init 25 = .ok (.putfield 20, 3) := by decide +kernel
theorem dX8_init_28 : decode cX8_init 28 = .ok (.aload_n 0, 1) := by decide +kernel
theorem dX8_init_29 : decode cX8_init 29 = .ok (.bipush 8, 2) := by decide +kernel
theorem dX8_init_31 : decode cX8_init 31 = .ok (.newarray .int, 2) := by decide +kernel
theorem dX8_init_33 : decode cX8_init 33 = .ok (.putfield 23, 3) := by decide +kernel
theorem dX8_init_36 : decode cX8_init 36 = .ok (.aload_n 0, 1) := by decide +kernel
theorem dX8_init_37 : decode cX8_init 37 = .ok (.bipush 6, 2) := by decide +kernel
theorem dX8_init_39 : decode cX8_init 39 = .ok (.newarray .int, 2) := by decide +kernel
theorem dX8_init_41 : decode cX8_init 41 = .ok (.putfield 26, 3) := by decide +kernel
theorem dX8_init_44 : decode cX8_init 44 = .ok (.aload_n 0, 1) := by decide +kernel
theorem dX8_init_45 : decode cX8_init 45 = .ok (.bipush 6, 2) := by decide +kernel
theorem dX8_init_47 : decode cX8_init 47 = .ok (.newarray .int, 2) := by decide +kernel
theorem dX8_init_49 : decode cX8_init 49 = .ok (.putfield 29, 3) := by decide +kernel
theorem dX8_init_52 : decode cX8_init 52 = .ok (.return_, 1) := by decide +kernel
theorem dX4_init_0 : decode cX4_init 0 = .ok (.aload_n 0, 1) := by decide +kernel
theorem dX4_init_1 : decode cX4_init 1 = .ok (.invokespecial 3, 3) := by decide +kernel
theorem dX4_init_4 : decode cX4_init 4 = .ok (.aload_n 0, 1) := by decide +kernel
theorem dX4_init_5 : decode cX4_init 5 = .ok (.bipush 8, 2) := by decide +kernel
theorem dX4_init_7 : decode cX4_init 7 = .ok (.newarray .int, 2) := by decide +kernel
theorem dX4_init_9 : decode cX4_init 9 = .ok (.putfield 11, 3) := by decide +kernel
theorem dX4_init_12 : decode cX4_init 12 = .ok (.aload_n 0, 1) := by decide +kernel
theorem dX4_init_13 : decode cX4_init 13 = .ok (.bipush 8, 2) := by decide +kernel
theorem dX4_init_15 : decode cX4_init 15 = .ok (.newarray .int, 2) := by decide +kernel
theorem dX4_init_17 : decode cX4_init 17 = .ok (.putfield 17, 3) := by decide +kernel
theorem dX4_init_20 : decode cX4_init 20 = .ok (.aload_n 0, 1) := by decide +kernel
theorem dX4_init_21 : decode cX4_init 21 = .ok (.bipush 42, 2) := by decide +kernel
theorem dX4_init_23 : decode cX4_init 23 = .ok (.newarray .int, 2) := by decide +kernel
theorem dX4_init_25 : decode cX4_init 25 = .ok (.putfield 20, 3) := by decide +kernel
theorem dX4_init_28 : decode cX4_init 28 = .ok (.aload_n 0, 1) := by decide +kernel
theorem dX4_init_29 : decode cX4_init 29 = .ok (.bipush 6, 2) := by decide +kernel
theorem dX4_init_31 : decode cX4_init 31 = .ok (.newarray .int, 2) := by decide +kernel
theorem dX4_init_33 : decode cX4_init 33 = .ok (.putfield 23, 3) := by decide +kernel
theorem dX4_init_36 : decode cX4_init 36 = .ok (.return_, 1) := by decide +kernel
theorem dX1_init_0 : decode cX1_init 0 = .ok (.aload_n 0, 1) := by decide +kernel
theorem dX1_init_1 : decode cX1_init 1 = .ok (.invokespecial 1, 3) := by decide +kernel
theorem dX1_init_4 : decode cX1_init 4 = .ok (.aload_n 0, 1) := by decide +kernel
theorem dX1_init_5 : decode cX1_init 5 = .ok (.bipush 6, 2) := by decide +kernel
theorem dX1_init_7 : decode cX1_init 7 = .ok (.newarray .int, 2) := by decide +kernel
theorem dX1_init_9 : decode cX1_init 9 = .ok (.putfield 9, 3) := by decide +kernel
theorem dX1_init_12 : decode cX1_init 12 = .ok (.return_, 1) := by decide +kernel
theorem dX0_init_0 : decode cX0_init 0 = .ok (.aload_n 0, 1) := by decide +kernel
theorem dX0_init_1 : decode cX0_init 1 = .ok (.invokespecial 1, 3) := by decide +kernel
theorem dX0_init_4 : decode cX0_init 4 = .ok (.aload_n 0, 1) := by decide +kernel
theorem dX0_init_5 : decode cX0_init 5 = .ok (.bipush 6, 2) := by decide +kernel
theorem dX0_init_7 : decode cX0_init 7 = .ok (.newarray .int, 2) := by decide +kernel
theorem dX0_init_9 : decode cX0_init 9 = .ok (.putfield 9, 3) := by decide +kernel
theorem dX0_init_12 : decode cX0_init 12 = .ok (.aload_n 0, 1) := by decide +kernel
theorem dX0_init_13 : decode cX0_init 13 = .ok (.bipush 6, 2) := by decide +kernel
theorem dX0_init_15 : decode cX0_init 15 = .ok (.newarray .int, 2) := by decide +kernel
theorem dX0_init_17 : decode cX0_init 17 = .ok (.putfield 15, 3) := by decide +kernel
theorem dX0_init_20 : decode cX0_init 20 = .ok (.aload_n 0, 1) := by decide +kernel
theorem dX0_init_21 : decode cX0_init 21 = .ok (.lconst 0, 1) := by decide +kernel
theorem dX0_init_22 : decode cX0_init 22 = .ok (.putfield 18, 3) := by decide +kernel
theorem dX0_init_25 : decode cX0_init 25 = .ok (.aload_n 0, 1) := by decide +kernel
theorem dX0_init_26 : decode cX0_init 26 = .ok (.lconst 1, 1) := by decide +kernel
theorem dX0_init_27 : decode cX0_init 27 = .ok (.putfield 22, 3) := by decide +kernel
theorem dX0_init_30 : decode cX0_init 30 = .ok (.return_, 1) := by decide +kernel
theorem dX3_init_0 : decode cX3_init 0 = .ok (.aload_n 0, 1) := by decide +kernel
theorem dX3_init_1 : decode cX3_init 1 = .ok (.invokespecial 1, 3) := by decide +kernel
theorem dX3_init_4 : decode cX3_init 4 = .ok (.aload_n 0, 1) := by decide +kernel
theorem dX3_init_5 : decode cX3_init 5 = .ok (.new 7, 3) := by decide +kernel
theorem dX3_init_8 : decode cX3_init 8 = .ok (.dup, 1) := by decide +kernel
theorem dX3_init_9 : decode cX3_init 9 = .ok (.invokespecial 9, 3) := by decide +kernel
theorem dX3_init_12 : decode cX3_init 12 = .ok (.putfield 10, 3) := by decide +kernel
theorem dX3_init_15 : decode cX3_init 15 = .ok (.aload_n 0, 1) := by decide +kernel
theorem dX3_init_16 : decode cX3_init 16 = .ok (.bipush 40, 2) := by decide +kernel
theorem dX3_init_18 : decode cX3_init 18 = .ok (.newarray .int, 2) := by decide +kernel
theorem dX3_init_20 : decode cX3_init 20 = .ok (.putfield 16, 3) := by decide +kernel
theorem dX3_init_23 : decode cX3_init 23 = .ok (.aload_n 0, 1) := by decide +kernel
theorem dX3_init_24 : decode cX3_init 24 = .ok (.iconst 3, 1) := by decide +kernel
theorem dX3_init_25 : decode cX3_init 25 = .ok (.bipush 40, 2) := by decide +kernel
theorem dX3_init_27 : decode cX3_init 27 = .ok (.multianewarray 20 2, 4) := by decide +kernel
theorem dX3_init_31 : decode cX3_init 31 = .ok (.putfield 22, 3) := by decide +kernel
theorem dX3_init_34 : decode cX3_init 34 = .ok (.aload_n 0, 1) := by decide +kernel
theorem dX3_init_35 : decode cX3_init 35 = .ok (.iconst 3, 1) := by decide +kernel
theorem dX3_init_36 : decode cX3_init 36 = .ok (.newarray .int, 2) := by decide +kernel
theorem dX3_init_38 : decode cX3_init 38 = .ok (.putfield 25, 3) := by decide +kernel
theorem dX3_init_41 : decode cX3_init 41 = .ok (.aload_n 0, 1) := by decide +kernel
theorem dX3_init_42 : decode cX3_init 42 = .ok (.getfield 25, 3) := by decide +kernel
theorem dX3_init_45 : decode cX3_init 45 = .ok (.iconst (-1), 1) := by decide +kernel
theorem dX3_init_46 : decode cX3_init 46 = .ok (.invokestatic 28, 3) := by decide +kernel
theorem dX3_init_49 : decode cX3_init 49 = .ok (.return_, 1) := by decide +kernel
theorem dX7_init_0 : decode cX7_init 0 = .ok (.aload_n 0, 1) := by decide +kernel
theorem dX7_init_1 : decode cX7_init 1 = .ok (.invokespecial 1, 3) := by decide +kernel
theorem dX7_init_4 : decode cX7_init 4 = .ok (.iconst 0, 1) := by decide +kernel
theorem dX7_init_5 : decode cX7_init 5 = .ok (.iload_n 1, 1) := by decide +kernel
theorem dX7_init_6 : decode cX7_init 6 = .ok (.invokestatic 7, 3) := by decide +kernel
theorem dX7_init_9 : decode cX7_init 9 = .ok (.istore_n 3, 1) := by decide +kernel
theorem dX7_init_10 : decode cX7_init 10 = .ok (.aload_n 0, 1) := by decide +kernel
theorem dX7_init_11 : decode cX7_init 11 = .ok (.iload_n 3, 1) := by decide +kernel
theorem dX7_init_12 : decode cX7_init 12 = .ok (.iconst 0, 1) := by decide +kernel
theorem dX7_init_13 : decode cX7_init 13 = .ok (.iload_n 2, 1) := by decide +kernel
theorem dX7_init_14 : decode cX7_init 14 = .ok (.invokestatic 7, 3) := by decide +kernel
theorem dX7_init_17 : decode cX7_init 17 = .ok (.multianewarray 13 2, 4) := by decide +kernel
theorem dX7_init_21 : decode cX7_init 21 = .ok (.putfield 15, 3) := by decide +kernel
theorem dX7_init_24 : decode cX7_init 24 = .ok (.aload_n 0, 1) := by decide +kernel
theorem dX7_init_25 : decode cX7_init 25 = .ok (.iload_n 3, 1) := by decide +kernel
theorem dX7_init_26 : decode cX7_init 26 = .ok (.newarray .int, 2) := by decide +kernel
theorem dX7_init_28 : decode cX7_init 28 = .ok (.putfield 20, 3) := by decide +kernel
theorem dX7_init_31 : decode cX7_init 31 = .ok (.aload_n 0, 1) := by decide +kernel
theorem dX7_init_32 : decode cX7_init 32 = .ok (.getfield 20, 3) := by decide +kernel
theorem dX7_init_35 : decode cX7_init 35 = .ok (.iconst (-1), 1) := by decide +kernel
theorem dX7_init_36 : decode cX7_init 36 = .ok (.invokestatic 24, 3) := by decide +kernel
theorem dX7_init_39 : decode cX7_init 39 = .ok (.return_, 1) := by decide +kernel
theorem dX10_init_0 : decode cX10_init 0 = .ok (.aload_n 0, 1) := by decide +kernel
theorem dX10_init_1 : decode cX10_init 1 = .ok (.invokespecial 1, 3) := by decide +kernel
theorem dX10_init_4 : decode cX10_init 4 = .ok (.aload_n 0, 1) := by decide +kernel
theorem dX10_init_5 : decode cX10_init 5 = .ok (.new 7, 3) := by decide +kernel
theorem dX10_init_8 : decode cX10_init 8 = .ok (.dup, 1) := by decide +kernel
theorem dX10_init_9 : decode cX10_init 9 = .ok (.bipush 6, 2) := by decide +kernel
theorem dX10_init_11 : decode cX10_init 11 = .ok (.bipush 40, 2) := by decide +kernel
theorem dX10_init_13 : decode cX10_init 13 = .ok (.invokespecial 11, 3) := by decide +kernel
theorem dX10_init_16 : decode cX10_init 16 = .ok (.putfield 14, 3) := by decide +kernel
theorem dX10_init_19 : decode cX10_init 19 = .ok (.aload_n 0, 1) := by decide +kernel
theorem dX10_init_20 : decode cX10_init 20 = .ok (.new 7, 3) := by decide +kernel
theorem dX10_init_23 : decode cX10_init 23 = .ok (.dup, 1) := by decide +kernel
theorem dX10_init_24 : decode cX10_init 24 = .ok (.iconst 4, 1) := by decide +kernel
theorem dX10_init_25 : decode cX10_init 25 = .ok (.bipush 90, 2) := by decide +kernel
theorem dX10_init_27 : decode cX10_init 27 = .ok (.invokespecial 11, 3) := by decide +kernel
theorem dX10_init_30 : decode cX10_init 30 = .ok (.putfield 18, 3) := by decide +kernel
theorem dX10_init_33 : decode cX10_init 33 = .ok (.aload_n 0, 1) := by decide +kernel
theorem dX10_init_34 : decode cX10_init 34 = .ok (.new 21, 3) := by decide +kernel
theorem dX10_init_37 : decode cX10_init 37 = .ok (.dup, 1) := by decide +kernel
theorem dX10_init_38 : decode cX10_init 38 = .ok (.invokespecial 23, 3) := by decide +kernel
theorem dX10_init_41 : decode cX10_init 41 = .ok (.putfield 24, 3) := by decide +kernel
theorem dX10_init_44 : decode cX10_init 44 = .ok (.aload_n 0, 1) := by decide +kernel
theorem dX10_init_45 : decode cX10_init 45 = .ok (.new 28, 3) := by decide +kernel
theorem dX10_init_48 : decode cX10_init 48 = .ok (.dup, 1) := by decide +kernel
theorem dX10_init_49 : decode cX10_init 49 = .ok (.invokespecial 30, 3) := by decide +kernel
theorem dX10_init_52 : decode cX10_init 52 = .ok (.putfield 31, 3) := by decide +kernel
theorem dX10_init_55 : decode cX10_init 55 = .ok (.aload_n 0, 1) := by decide +kernel
theorem dX10_init_56 : decode cX10_init 56 = .ok (.aload_n 0, 1) := by decide +kernel
theorem dX10_init_57 : decode cX10_init 57 = .ok (.getfield 31, 3) := by decide +kernel
theorem dX10_init_60 : decode cX10_init 60 = .ok (.getfield 35, 3) := by decide +kernel
theorem dX10_init_63 : decode cX10_init 63 = .ok (.putfield 39, 3) := by decide +kernel
theorem dX10_init_66 : decode cX10_init 66 = .ok (.aload_n 0, 1) := by decide +kernel
theorem dX10_init_67 : decode cX10_init 67 = .ok (.aload_n 0, 1) := by decide +kernel
theorem dX10_init_68 : decode cX10_init 68 = .ok (.getfield 39, 3) := by decide +kernel
theorem dX10_init_71 : decode cX10_init 71 = .ok (.getfield 40, 3) := by decide +kernel
theorem dX10_init_74 : decode cX10_init 74 = .ok (.putfield 46, 3) := by decide +kernel
theorem dX10_init_77 : decode cX10_init 77 = .ok (.aload_n 0, 1) := by decide +kernel
theorem dX10_init_78 : decode cX10_init 78 = .ok (.new 47, 3) := by decide +kernel
theorem dX10_init_81 : decode cX10_init 81 = .ok (.dup, 1) := by decide +kernel
theorem dX10_init_82 : decode cX10_init 82 = .ok (.invokespecial 49, 3) := by decide +kernel
theorem dX10_init_85 : decode cX10_init 85 = .ok (.putfield 50, 3) := by decide +kernel
theorem dX10_init_88 : decode cX10_init 88 = .ok (.aload_n 0, 1) := by decide +kernel
theorem dX10_init_89 : decode cX10_init 89 = .ok (.new 54, 3) := by decide +kernel
theorem dX10_init_92 : decode cX10_init 92 = .ok (.dup, 1) := by decide +kernel
theorem dX10_init_93 : decode cX10_init 93 = .ok (.invokespecial 56, 3) := by decide +kernel
theorem dX10_init_96 : decode cX10_init 96 = .ok (.putfield 57, 3) := by decide +kernel
theorem dX10_init_99 : decode cX10_init 99 = .ok (.aload_n 0, 1) := by decide +kernel
theorem dX10_init_100 : decode cX10_init 100 = .ok (.new 61, 3) := by decide +kernel
theorem dX10_init_103 : decode cX10_init 103 = .ok (.dup, 1) := by decide +kernel
theorem dX10_init_104 : decode cX10_init 104 = .ok (.invokespecial 63, 3) := by decide +kernel
theorem dX10_init_107 : decode cX10_init 107 = .ok (.putfield 64, 3) := by decide +kernel
theorem dX10_init_110 : decode cX10_init 110 = .ok (.aload_n 0, 1) := by decide +kernel
theorem dX10_init_111 : decode cX10_init 111 = .ok (.bipush 6, 2) := by decide +kernel
theorem dX10_init_113 : decode cX10_init 113 = .ok (.newarray .int, 2) := by decide +kernel
theorem dX10_init_115 : decode cX10_init 115 = .ok (.putfield 68, 3) := by decide +kernel
theorem dX10_init_118 : decode cX10_init 118 = .ok (.return_, 1) := by decide +kernel
set_option maxHeartbeats 8000000 in
set_option maxRecDepth 100000 in
theorem ci_X6 (l : Launch) (g : GG) (h0 : Nat) : MC l g yX6_init (Cond.code yX6_init cX6_init 1 none :: gtbl) (rmC 2 6 92) h0 [] (.inr (4, [.null, .null, .null, .null, .null, .null, .int 0, .int 0])) (fun u => [((u 0), .inr (4, [.ref (u 1), .ref (u 2), .ref (u 3), .ref (u 4), .ref (u 5), .ref (u 6), .int 0, .int 0])), ((u 1), .inl (g.2.2.1, 56, .inl (fun _ => 0))), ((u 2), .inl (g.2.2.1, 8, .inl (fun _ => 0))), ((u 3), .inl (g.2.2.1, 8, .inl (fun _ => 0))), ((u 4), .inl (g.2.2.1, 8, .inl (fun _ => 0))), ((u 5), .inl (g.2.2.1, 6, .inl (fun _ => 0))), ((u 6), .inl (g.2.2.1, 6, .inl (fun _ => 0)))]) 6 92 := by
  refine mc_of (own := RX6) (lv := [(0, .ref h0)]) (by decide) rfl rfl (Nat.le_of_ble_eq_true rfl) rfl (fun p e s m below meth c ls C hr hlk hin hK hN hP hD hA hl => ?_)
  have hx := C.1
  have hb := C.2.1
  have hS : va_S (va_A [(h0, .inr (4, [.null, .null, .null, .null, .null, .null, .int 0, .int 0]))] s.heap.size) s.heap s.heap [] := va_S.rf
  generalize hAe : va_A [(h0, .inr (4, [.null, .null, .null, .null, .null, .null, .int 0, .int 0]))] s.heap.size = A at hD hS hA
  refine lv_aload_n hx hb dX6_init_0 rfl (lv_at hl 0 rfl) ?_
  refine W.objInit hx hb C.2.2.2.1 (C.2.2.2.2 _ mw_151) (C.2.2.2.2 _ mw_68) (C.2.2.2.2 _ mw_69) rfl (hl.1.trans C.2.2.1.symm) rfl dX6_init_1 (Nat.le_of_ble_eq_true rfl) (Nat.le_of_ble_eq_true rfl) ?_
  refine W.eq (g2 := F0 m 4 ls []) rfl ?_
  refine lv_aload_n hx hb dX6_init_4 rfl (lv_at hl 0 rfl) ?_
  refine lv_bipush (v := 56) hx hb dX6_init_5 (by decide) ?_
  refine z_newi (n := 56) (N' := 56) C hK hP hD hS hA (by decide) (by decide) (by decide) (Nat.le_of_ble_eq_true rfl) (Nat.le_of_ble_eq_true rfl) dX6_init_7 (fun q1 H hP hD hS => ?_)
  have hP : va_P g.1 clsL [(h0, .inr (4, [.null, .null, .null, .null, .null, .null, .int 0, .int 0])), (q1, .inl (g.2.2.1, 56, .inl (fun _ => 0)))] H := hP
  have hD : va_D A [(h0, .inr (4, [.null, .null, .null, .null, .null, .null, .int 0, .int 0])), (q1, .inl (g.2.2.1, 56, .inl (fun _ => 0)))] := hD
  refine W.widen (k := 1) (n := 56) (Nat.le_of_ble_eq_true rfl) (Nat.le_of_ble_eq_true rfl) ?_
  refine va_putF (D := g.1) (ci := 4) (v := .ref q1) (ty := .array .int) (C := RX6) (T := TX6) (N := 8) hx hb C.2.2.2.2 inX6 tyX6 tyX6_ok nmX6 C.2.2.2.1 hK hP hD hS 0 rfl rfl 0 (by decide) (C.2.2.2.2 _ mw_152) (fun _ h9 => h9) rfl hin rfl (by decide +kernel) rfl rfl (Nat.le_of_ble_eq_true rfl) dX6_init_9 (fun H locs hP hD hS => ?_)
  have hP : va_P g.1 clsL [(h0, .inr (4, [.ref q1, .null, .null, .null, .null, .null, .int 0, .int 0])), (q1, .inl (g.2.2.1, 56, .inl (fun _ => 0)))] H := hP
  have hD : va_D A [(h0, .inr (4, [.ref q1, .null, .null, .null, .null, .null, .int 0, .int 0])), (q1, .inl (g.2.2.1, 56, .inl (fun _ => 0)))] := hD
  refine lv_aload_n hx hb dX6_init_12 rfl (lv_at hl 0 rfl) ?_
  refine lv_bipush (v := 8) hx hb dX6_init_13 (by decide) ?_
  refine z_newi (n := 8) (N' := 8) C hK hP hD hS hA (by decide) (by decide) (by decide) (Nat.le_of_ble_eq_true rfl) (Nat.le_of_ble_eq_true rfl) dX6_init_15 (fun q2 H hP hD hS => ?_)
  have hP : va_P g.1 clsL [(h0, .inr (4, [.ref q1, .null, .null, .null, .null, .null, .int 0, .int 0])), (q1, .inl (g.2.2.1, 56, .inl (fun _ => 0))), (q2, .inl (g.2.2.1, 8, .inl (fun _ => 0)))] H := hP
  have hD : va_D A [(h0, .inr (4, [.ref q1, .null, .null, .null, .null, .null, .int 0, .int 0])), (q1, .inl (g.2.2.1, 56, .inl (fun _ => 0))), (q2, .inl (g.2.2.1, 8, .inl (fun _ => 0)))] := hD
  refine W.widen (k := 2) (n := 64) (Nat.le_of_ble_eq_true rfl) (Nat.le_of_ble_eq_true rfl) ?_
  refine va_putF (D := g.1) (ci := 4) (v := .ref q2) (ty := .array .int) (C := RX6) (T := TX6) (N := 8) hx hb C.2.2.2.2 inX6 tyX6 tyX6_ok nmX6 C.2.2.2.1 hK hP hD hS 0 rfl rfl 1 (by decide) (C.2.2.2.2 _ mw_154) (fun _ h9 => h9) rfl hin rfl (by decide +kernel) rfl rfl (Nat.le_of_ble_eq_true rfl) dX6_init_17 (fun H locs hP hD hS => ?_)
  have hP : va_P g.1 clsL [(h0, .inr (4, [.ref q1, .ref q2, .null, .null, .null, .null, .int 0, .int 0])), (q1, .inl (g.2.2.1, 56, .inl (fun _ => 0))), (q2, .inl (g.2.2.1, 8, .inl (fun _ => 0)))] H := hP
  have hD : va_D A [(h0, .inr (4, [.ref q1, .ref q2, .null, .null, .null, .null, .int 0, .int 0])), (q1, .inl (g.2.2.1, 56, .inl (fun _ => 0))), (q2, .inl (g.2.2.1, 8, .inl (fun _ => 0)))] := hD
  refine lv_aload_n hx hb dX6_init_20 rfl (lv_at hl 0 rfl) ?_
  refine lv_bipush (v := 8) hx hb dX6_init_21 (by decide) ?_
  refine z_newi (n := 8) (N' := 8) C hK hP hD hS hA (by decide) (by decide) (by decide) (Nat.le_of_ble_eq_true rfl) (Nat.le_of_ble_eq_true rfl) dX6_init_23 (fun q3 H hP hD hS => ?_)
  have hP : va_P g.1 clsL [(h0, .inr (4, [.ref q1, .ref q2, .null, .null, .null, .null, .int 0, .int 0])), (q1, .inl (g.2.2.1, 56, .inl (fun _ => 0))), (q2, .inl (g.2.2.1, 8, .inl (fun _ => 0))), (q3, .inl (g.2.2.1, 8, .inl (fun _ => 0)))] H := hP
  have hD : va_D A [(h0, .inr (4, [.ref q1, .ref q2, .null, .null, .null, .null, .int 0, .int 0])), (q1, .inl (g.2.2.1, 56, .inl (fun _ => 0))), (q2, .inl (g.2.2.1, 8, .inl (fun _ => 0))), (q3, .inl (g.2.2.1, 8, .inl (fun _ => 0)))] := hD
  refine W.widen (k := 3) (n := 72) (Nat.le_of_ble_eq_true rfl) (Nat.le_of_ble_eq_true rfl) ?_
  refine va_putF (D := g.1) (ci := 4) (v := .ref q3) (ty := .array .int) (C := RX6) (T := TX6) (N := 8) hx hb C.2.2.2.2 inX6 tyX6 tyX6_ok nmX6 C.2.2.2.1 hK hP hD hS 0 rfl rfl 2 (by decide) (C.2.2.2.2 _ mw_156) (fun _ h9 => h9) rfl hin rfl (by decide +kernel) rfl rfl (Nat.le_of_ble_eq_true rfl) dX6_init_25 (fun H locs hP hD hS => ?_)
  have hP : va_P g.1 clsL [(h0, .inr (4, [.ref q1, .ref q2, .ref q3, .null, .null, .null, .int 0, .int 0])), (q1, .inl (g.2.2.1, 56, .inl (fun _ => 0))), (q2, .inl (g.2.2.1, 8, .inl (fun _ => 0))), (q3, .inl (g.2.2.1, 8, .inl (fun _ => 0)))] H := hP
  have hD : va_D A [(h0, .inr (4, [.ref q1, .ref q2, .ref q3, .null, .null, .null, .int 0, .int 0])), (q1, .inl (g.2.2.1, 56, .inl (fun _ => 0))), (q2, .inl (g.2.2.1, 8, .inl (fun _ => 0))), (q3, .inl (g.2.2.1, 8, .inl (fun _ => 0)))] := hD
  refine lv_aload_n hx hb dX6_init_28 rfl (lv_at hl 0 rfl) ?_
  refine lv_bipush (v := 8) hx hb dX6_init_29 (by decide) ?_
  refine z_newi (n := 8) (N' := 8) C hK hP hD hS hA (by decide) (by decide) (by decide) (Nat.le_of_ble_eq_true rfl) (Nat.le_of_ble_eq_true rfl) dX6_init_31 (fun q4 H hP hD hS => ?_)
  have hP : va_P g.1 clsL [(h0, .inr (4, [.ref q1, .ref q2, .ref q3, .null, .null, .null, .int 0, .int 0])), (q1, .inl (g.2.2.1, 56, .inl (fun _ => 0))), (q2, .inl (g.2.2.1, 8, .inl (fun _ => 0))), (q3, .inl (g.2.2.1, 8, .inl (fun _ => 0))), (q4, .inl (g.2.2.1, 8, .inl (fun _ => 0)))] H := hP
  have hD : va_D A [(h0, .inr (4, [.ref q1, .ref q2, .ref q3, .null, .null, .null, .int 0, .int 0])), (q1, .inl (g.2.2.1, 56, .inl (fun _ => 0))), (q2, .inl (g.2.2.1, 8, .inl (fun _ => 0))), (q3, .inl (g.2.2.1, 8, .inl (fun _ => 0))), (q4, .inl (g.2.2.1, 8, .inl (fun _ => 0)))] := hD
  refine W.widen (k := 4) (n := 80) (Nat.le_of_ble_eq_true rfl) (Nat.le_of_ble_eq_true rfl) ?_
  refine va_putF (D := g.1) (ci := 4) (v := .ref q4) (ty := .array .int) (C := RX6) (T := TX6) (N := 8) hx hb C.2.2.2.2 inX6 tyX6 tyX6_ok nmX6 C.2.2.2.1 hK hP hD hS 0 rfl rfl 3 (by decide) (C.2.2.2.2 _ mw_158) (fun _ h9 => h9) rfl hin rfl (by decide +kernel) rfl rfl (Nat.le_of_ble_eq_true rfl) dX6_init_33 (fun H locs hP hD hS => ?_)
  have hP : va_P g.1 clsL [(h0, .inr (4, [.ref q1, .ref q2, .ref q3, .ref q4, .null, .null, .int 0, .int 0])), (q1, .inl (g.2.2.1, 56, .inl (fun _ => 0))), (q2, .inl (g.2.2.1, 8, .inl (fun _ => 0))), (q3, .inl (g.2.2.1, 8, .inl (fun _ => 0))), (q4, .inl (g.2.2.1, 8, .inl (fun _ => 0)))] H := hP
  have hD : va_D A [(h0, .inr (4, [.ref q1, .ref q2, .ref q3, .ref q4, .null, .null, .int 0, .int 0])), (q1, .inl (g.2.2.1, 56, .inl (fun _ => 0))), (q2, .inl (g.2.2.1, 8, .inl (fun _ => 0))), (q3, .inl (g.2.2.1, 8, .inl (fun _ => 0))), (q4, .inl (g.2.2.1, 8, .inl (fun _ => 0)))] := hD
  refine lv_aload_n hx hb dX6_init_36 rfl (lv_at hl 0 rfl) ?_
  refine lv_bipush (v := 6) hx hb dX6_init_37 (by decide) ?_
  refine z_newi (n := 6) (N' := 6) C hK hP hD hS hA (by decide) (by decide) (by decide) (Nat.le_of_ble_eq_true rfl) (Nat.le_of_ble_eq_true rfl) dX6_init_39 (fun q5 H hP hD hS => ?_)
  have hP : va_P g.1 clsL [(h0, .inr (4, [.ref q1, .ref q2, .ref q3, .ref q4, .null, .null, .int 0, .int 0])), (q1, .inl (g.2.2.1, 56, .inl (fun _ => 0))), (q2, .inl (g.2.2.1, 8, .inl (fun _ => 0))), (q3, .inl (g.2.2.1, 8, .inl (fun _ => 0))), (q4, .inl (g.2.2.1, 8, .inl (fun _ => 0))), (q5, .inl (g.2.2.1, 6, .inl (fun _ => 0)))] H := hP
  have hD : va_D A [(h0, .inr (4, [.ref q1, .ref q2, .ref q3, .ref q4, .null, .null, .int 0, .int 0])), (q1, .inl (g.2.2.1, 56, .inl (fun _ => 0))), (q2, .inl (g.2.2.1, 8, .inl (fun _ => 0))), (q3, .inl (g.2.2.1, 8, .inl (fun _ => 0))), (q4, .inl (g.2.2.1, 8, .inl (fun _ => 0))), (q5, .inl (g.2.2.1, 6, .inl (fun _ => 0)))] := hD
  refine W.widen (k := 5) (n := 86) (Nat.le_of_ble_eq_true rfl) (Nat.le_of_ble_eq_true rfl) ?_
  refine va_putF (D := g.1) (ci := 4) (v := .ref q5) (ty := .array .int) (C := RX6) (T := TX6) (N := 8) hx hb C.2.2.2.2 inX6 tyX6 tyX6_ok nmX6 C.2.2.2.1 hK hP hD hS 0 rfl rfl 4 (by decide) (C.2.2.2.2 _ mw_160) (fun _ h9 => h9) rfl hin rfl (by decide +kernel) rfl rfl (Nat.le_of_ble_eq_true rfl) dX6_init_41 (fun H locs hP hD hS => ?_)
  have hP : va_P g.1 clsL [(h0, .inr (4, [.ref q1, .ref q2, .ref q3, .ref q4, .ref q5, .null, .int 0, .int 0])), (q1, .inl (g.2.2.1, 56, .inl (fun _ => 0))), (q2, .inl (g.2.2.1, 8, .inl (fun _ => 0))), (q3, .inl (g.2.2.1, 8, .inl (fun _ => 0))), (q4, .inl (g.2.2.1, 8, .inl (fun _ => 0))), (q5, .inl (g.2.2.1, 6, .inl (fun _ => 0)))] H := hP
  have hD : va_D A [(h0, .inr (4, [.ref q1, .ref q2, .ref q3, .ref q4, .ref q5, .null, .int 0, .int 0])), (q1, .inl (g.2.2.1, 56, .inl (fun _ => 0))), (q2, .inl (g.2.2.1, 8, .inl (fun _ => 0))), (q3, .inl (g.2.2.1, 8, .inl (fun _ => 0))), (q4, .inl (g.2.2.1, 8, .inl (fun _ => 0))), (q5, .inl (g.2.2.1, 6, .inl (fun _ => 0)))] := hD
  refine lv_aload_n hx hb dX6_init_44 rfl (lv_at hl 0 rfl) ?_
  refine lv_bipush (v := 6) hx hb dX6_init_45 (by decide) ?_
  refine z_newi (n := 6) (N' := 6) C hK hP hD hS hA (by decide) (by decide) (by decide) (Nat.le_of_ble_eq_true rfl) (Nat.le_of_ble_eq_true rfl) dX6_init_47 (fun q6 H hP hD hS => ?_)
  have hP : va_P g.1 clsL [(h0, .inr (4, [.ref q1, .ref q2, .ref q3, .ref q4, .ref q5, .null, .int 0, .int 0])), (q1, .inl (g.2.2.1, 56, .inl (fun _ => 0))), (q2, .inl (g.2.2.1, 8, .inl (fun _ => 0))), (q3, .inl (g.2.2.1, 8, .inl (fun _ => 0))), (q4, .inl (g.2.2.1, 8, .inl (fun _ => 0))), (q5, .inl (g.2.2.1, 6, .inl (fun _ => 0))), (q6, .inl (g.2.2.1, 6, .inl (fun _ => 0)))] H := hP
  have hD : va_D A [(h0, .inr (4, [.ref q1, .ref q2, .ref q3, .ref q4, .ref q5, .null, .int 0, .int 0])), (q1, .inl (g.2.2.1, 56, .inl (fun _ => 0))), (q2, .inl (g.2.2.1, 8, .inl (fun _ => 0))), (q3, .inl (g.2.2.1, 8, .inl (fun _ => 0))), (q4, .inl (g.2.2.1, 8, .inl (fun _ => 0))), (q5, .inl (g.2.2.1, 6, .inl (fun _ => 0))), (q6, .inl (g.2.2.1, 6, .inl (fun _ => 0)))] := hD
  refine W.widen (k := 6) (n := 92) (Nat.le_of_ble_eq_true rfl) (Nat.le_of_ble_eq_true rfl) ?_
  refine va_putF (D := g.1) (ci := 4) (v := .ref q6) (ty := .array .int) (C := RX6) (T := TX6) (N := 8) hx hb C.2.2.2.2 inX6 tyX6 tyX6_ok nmX6 C.2.2.2.1 hK hP hD hS 0 rfl rfl 5 (by decide) (C.2.2.2.2 _ mw_164) (fun _ h9 => h9) rfl hin rfl (by decide +kernel) rfl rfl (Nat.le_of_ble_eq_true rfl) dX6_init_49 (fun H locs hP hD hS => ?_)
  have hP : va_P g.1 clsL [(h0, .inr (4, [.ref q1, .ref q2, .ref q3, .ref q4, .ref q5, .ref q6, .int 0, .int 0])), (q1, .inl (g.2.2.1, 56, .inl (fun _ => 0))), (q2, .inl (g.2.2.1, 8, .inl (fun _ => 0))), (q3, .inl (g.2.2.1, 8, .inl (fun _ => 0))), (q4, .inl (g.2.2.1, 8, .inl (fun _ => 0))), (q5, .inl (g.2.2.1, 6, .inl (fun _ => 0))), (q6, .inl (g.2.2.1, 6, .inl (fun _ => 0)))] H := hP
  have hD : va_D A [(h0, .inr (4, [.ref q1, .ref q2, .ref q3, .ref q4, .ref q5, .ref q6, .int 0, .int 0])), (q1, .inl (g.2.2.1, 56, .inl (fun _ => 0))), (q2, .inl (g.2.2.1, 8, .inl (fun _ => 0))), (q3, .inl (g.2.2.1, 8, .inl (fun _ => 0))), (q4, .inl (g.2.2.1, 8, .inl (fun _ => 0))), (q5, .inl (g.2.2.1, 6, .inl (fun _ => 0))), (q6, .inl (g.2.2.1, 6, .inl (fun _ => 0)))] := hD
  subst hAe
  exact z_ret (w1 := fun u => [((u 0), .inr (4, [.ref (u 1), .ref (u 2), .ref (u 3), .ref (u 4), .ref (u 5), .ref (u 6), .int 0, .int 0])), ((u 1), .inl (g.2.2.1, 56, .inl (fun _ => 0))), ((u 2), .inl (g.2.2.1, 8, .inl (fun _ => 0))), ((u 3), .inl (g.2.2.1, 8, .inl (fun _ => 0))), ((u 4), .inl (g.2.2.1, 8, .inl (fun _ => 0))), ((u 5), .inl (g.2.2.1, 6, .inl (fun _ => 0))), ((u 6), .inl (g.2.2.1, 6, .inl (fun _ => 0)))]) C hr hlk (fun k => match k with | 0 => h0 | 1 => q1 | 2 => q2 | 3 => q3 | 4 => q4 | 5 => q5 | 6 => q6 | _ => 0) rfl hP hD hS dX6_init_52
set_option maxHeartbeats 8000000 in
set_option maxRecDepth 100000 in
theorem ci_X9 (l : Launch) (g : GG) (h0 : Nat) : MC l g yX9_init (Cond.code yX9_init cX9_init 1 none :: gtbl) (rmC 3 9 154) h0 [] (.inr (7, [.null, .null, .null, .int 0])) (fun u => [((u 0), .inr (7, [.ref (u 1), .ref (u 8), .ref (u 9), .int 0])), ((u 1), .inr (4, [.ref (u 2), .ref (u 3), .ref (u 4), .ref (u 5), .ref (u 6), .ref (u 7), .int 0, .int 0])), ((u 2), .inl (g.2.2.1, 56, .inl (fun _ => 0))), ((u 3), .inl (g.2.2.1, 8, .inl (fun _ => 0))), ((u 4), .inl (g.2.2.1, 8, .inl (fun _ => 0))), ((u 5), .inl (g.2.2.1, 8, .inl (fun _ => 0))), ((u 6), .inl (g.2.2.1, 6, .inl (fun _ => 0))), ((u 7), .inl (g.2.2.1, 6, .inl (fun _ => 0))), ((u 8), .inl (g.2.2.1, 6, .inl (fun _ => 0))), ((u 9), .inl (g.2.2.1, 48, .inl (fun _ => 0)))]) 9 154 := by
  refine mc_of (own := RX9) (lv := [(0, .ref h0)]) (by decide) rfl rfl (Nat.le_of_ble_eq_true rfl) rfl (fun p e s m below meth c ls C hr hlk hin hK hN hP hD hA hl => ?_)
  have hx := C.1
  have hb := C.2.1
  have hS : va_S (va_A [(h0, .inr (7, [.null, .null, .null, .int 0]))] s.heap.size) s.heap s.heap [] := va_S.rf
  generalize hAe : va_A [(h0, .inr (7, [.null, .null, .null, .int 0]))] s.heap.size = A at hD hS hA
  refine lv_aload_n hx hb dX9_init_0 rfl (lv_at hl 0 rfl) ?_
  refine W.objInit hx hb C.2.2.2.1 (C.2.2.2.2 _ mw_145) (C.2.2.2.2 _ mw_68) (C.2.2.2.2 _ mw_69) rfl (hl.1.trans C.2.2.1.symm) rfl dX9_init_1 (Nat.le_of_ble_eq_true rfl) (Nat.le_of_ble_eq_true rfl) ?_
  refine W.eq (g2 := F0 m 4 ls []) rfl ?_
  refine lv_aload_n hx hb dX9_init_4 rfl (lv_at hl 0 rfl) ?_
  refine va_new (ci := 4) (fs := [.null, .null, .null, .null, .null, .null, .int 0, .int 0]) (C := RX6) (T := TX6) (N := 8) hx hb C.2.2.2.2 inX6 tyX6 tyX6_ok C.2.2.2.1 (C.2.2.2.2 _ mw_146) (C.2.2.2.2 _ mw_147) (C.2.2.2.2 _ mw_53) hK hP hD hS hA rfl (fun j hj => match j, hj with | 0, _ => rfl | 1, _ => rfl | 2, _ => rfl | 3, _ => rfl | 4, _ => rfl | 5, _ => rfl | 6, _ => rfl | 7, _ => rfl | j + 8, h => absurd h (by omega)) (Nat.le_of_ble_eq_true rfl) (Nat.le_of_ble_eq_true rfl) dX9_init_5 (fun q1 H hP hD hS => ?_)
  have hP : va_P g.1 clsL [(h0, .inr (7, [.null, .null, .null, .int 0])), (q1, .inr (4, [.null, .null, .null, .null, .null, .null, .int 0, .int 0]))] H := hP
  have hD : va_D A [(h0, .inr (7, [.null, .null, .null, .int 0])), (q1, .inr (4, [.null, .null, .null, .null, .null, .null, .int 0, .int 0]))] := hD
  refine W.widen (k := 1) (n := 8) (Nat.le_of_ble_eq_true rfl) (Nat.le_of_ble_eq_true rfl) ?_
  refine lv_dup hx hb dX9_init_8 rfl ?_
  refine z_cN (X := [(h0, .inr (7, [.null, .null, .null, .int 0]))]) (As := []) (rest := [.ref q1, .ref h0]) C hl.1 hK hN hP hD hS hA ⟨Nat.le_of_ble_eq_true rfl, Nat.le_of_ble_eq_true rfl⟩ (ci_X6 l g q1) ⟨va_cnB 0 C.2.2.2.2 (gtbl_gi mw_150) rfl rfl rfl hN.2.2.1 (C.2.2.2.2 _ mw_53) (by decide +kernel) ⟨Nat.le_of_ble_eq_true rfl, Nat.le_of_ble_eq_true rfl⟩, rfl, C.2.2.2.2 _ mw_149⟩ rfl rfl (Nat.le_of_ble_eq_true rfl) dX9_init_9 (fun u2 H locs hu hP2 hD2 hS => ?_)
  subst hu
  have hP : va_P g.1 clsL [(h0, .inr (7, [.null, .null, .null, .int 0])), ((u2 0), .inr (4, [.ref (u2 1), .ref (u2 2), .ref (u2 3), .ref (u2 4), .ref (u2 5), .ref (u2 6), .int 0, .int 0])), ((u2 1), .inl (g.2.2.1, 56, .inl (fun _ => 0))), ((u2 2), .inl (g.2.2.1, 8, .inl (fun _ => 0))), ((u2 3), .inl (g.2.2.1, 8, .inl (fun _ => 0))), ((u2 4), .inl (g.2.2.1, 8, .inl (fun _ => 0))), ((u2 5), .inl (g.2.2.1, 6, .inl (fun _ => 0))), ((u2 6), .inl (g.2.2.1, 6, .inl (fun _ => 0)))] H := hP2
  have hD : va_D A [(h0, .inr (7, [.null, .null, .null, .int 0])), ((u2 0), .inr (4, [.ref (u2 1), .ref (u2 2), .ref (u2 3), .ref (u2 4), .ref (u2 5), .ref (u2 6), .int 0, .int 0])), ((u2 1), .inl (g.2.2.1, 56, .inl (fun _ => 0))), ((u2 2), .inl (g.2.2.1, 8, .inl (fun _ => 0))), ((u2 3), .inl (g.2.2.1, 8, .inl (fun _ => 0))), ((u2 4), .inl (g.2.2.1, 8, .inl (fun _ => 0))), ((u2 5), .inl (g.2.2.1, 6, .inl (fun _ => 0))), ((u2 6), .inl (g.2.2.1, 6, .inl (fun _ => 0)))] := hD2
  refine W.widen (k := 7) (n := 100) (Nat.le_of_ble_eq_true rfl) (Nat.le_of_ble_eq_true rfl) ?_
  refine va_putF (D := g.1) (ci := 7) (v := .ref (u2 0)) (ty := .object "ColourCoupons$Plan") (C := RX9) (T := TX9) (N := 4) hx hb C.2.2.2.2 inX9 tyX9 tyX9_ok nmX9 C.2.2.2.1 hK hP hD hS 0 rfl rfl 0 (by decide) (C.2.2.2.2 _ mw_197) (fun _ h9 => h9) rfl hin rfl (by decide +kernel) rfl rfl (Nat.le_of_ble_eq_true rfl) dX9_init_12 (fun H locs hP hD hS => ?_)
  have hP : va_P g.1 clsL [(h0, .inr (7, [.ref (u2 0), .null, .null, .int 0])), ((u2 0), .inr (4, [.ref (u2 1), .ref (u2 2), .ref (u2 3), .ref (u2 4), .ref (u2 5), .ref (u2 6), .int 0, .int 0])), ((u2 1), .inl (g.2.2.1, 56, .inl (fun _ => 0))), ((u2 2), .inl (g.2.2.1, 8, .inl (fun _ => 0))), ((u2 3), .inl (g.2.2.1, 8, .inl (fun _ => 0))), ((u2 4), .inl (g.2.2.1, 8, .inl (fun _ => 0))), ((u2 5), .inl (g.2.2.1, 6, .inl (fun _ => 0))), ((u2 6), .inl (g.2.2.1, 6, .inl (fun _ => 0)))] H := hP
  have hD : va_D A [(h0, .inr (7, [.ref (u2 0), .null, .null, .int 0])), ((u2 0), .inr (4, [.ref (u2 1), .ref (u2 2), .ref (u2 3), .ref (u2 4), .ref (u2 5), .ref (u2 6), .int 0, .int 0])), ((u2 1), .inl (g.2.2.1, 56, .inl (fun _ => 0))), ((u2 2), .inl (g.2.2.1, 8, .inl (fun _ => 0))), ((u2 3), .inl (g.2.2.1, 8, .inl (fun _ => 0))), ((u2 4), .inl (g.2.2.1, 8, .inl (fun _ => 0))), ((u2 5), .inl (g.2.2.1, 6, .inl (fun _ => 0))), ((u2 6), .inl (g.2.2.1, 6, .inl (fun _ => 0)))] := hD
  refine lv_aload_n hx hb dX9_init_15 rfl (lv_at hl 0 rfl) ?_
  refine lv_bipush (v := 6) hx hb dX9_init_16 (by decide) ?_
  refine z_newi (n := 6) (N' := 6) C hK hP hD hS hA (by decide) (by decide) (by decide) (Nat.le_of_ble_eq_true rfl) (Nat.le_of_ble_eq_true rfl) dX9_init_18 (fun q3 H hP hD hS => ?_)
  have hP : va_P g.1 clsL [(h0, .inr (7, [.ref (u2 0), .null, .null, .int 0])), ((u2 0), .inr (4, [.ref (u2 1), .ref (u2 2), .ref (u2 3), .ref (u2 4), .ref (u2 5), .ref (u2 6), .int 0, .int 0])), ((u2 1), .inl (g.2.2.1, 56, .inl (fun _ => 0))), ((u2 2), .inl (g.2.2.1, 8, .inl (fun _ => 0))), ((u2 3), .inl (g.2.2.1, 8, .inl (fun _ => 0))), ((u2 4), .inl (g.2.2.1, 8, .inl (fun _ => 0))), ((u2 5), .inl (g.2.2.1, 6, .inl (fun _ => 0))), ((u2 6), .inl (g.2.2.1, 6, .inl (fun _ => 0))), (q3, .inl (g.2.2.1, 6, .inl (fun _ => 0)))] H := hP
  have hD : va_D A [(h0, .inr (7, [.ref (u2 0), .null, .null, .int 0])), ((u2 0), .inr (4, [.ref (u2 1), .ref (u2 2), .ref (u2 3), .ref (u2 4), .ref (u2 5), .ref (u2 6), .int 0, .int 0])), ((u2 1), .inl (g.2.2.1, 56, .inl (fun _ => 0))), ((u2 2), .inl (g.2.2.1, 8, .inl (fun _ => 0))), ((u2 3), .inl (g.2.2.1, 8, .inl (fun _ => 0))), ((u2 4), .inl (g.2.2.1, 8, .inl (fun _ => 0))), ((u2 5), .inl (g.2.2.1, 6, .inl (fun _ => 0))), ((u2 6), .inl (g.2.2.1, 6, .inl (fun _ => 0))), (q3, .inl (g.2.2.1, 6, .inl (fun _ => 0)))] := hD
  refine W.widen (k := 8) (n := 106) (Nat.le_of_ble_eq_true rfl) (Nat.le_of_ble_eq_true rfl) ?_
  refine va_putF (D := g.1) (ci := 7) (v := .ref q3) (ty := .array .int) (C := RX9) (T := TX9) (N := 4) hx hb C.2.2.2.2 inX9 tyX9 tyX9_ok nmX9 C.2.2.2.1 hK hP hD hS 0 rfl rfl 1 (by decide) (C.2.2.2.2 _ mw_203) (fun _ h9 => h9) rfl hin rfl (by decide +kernel) rfl rfl (Nat.le_of_ble_eq_true rfl) dX9_init_20 (fun H locs hP hD hS => ?_)
  have hP : va_P g.1 clsL [(h0, .inr (7, [.ref (u2 0), .ref q3, .null, .int 0])), ((u2 0), .inr (4, [.ref (u2 1), .ref (u2 2), .ref (u2 3), .ref (u2 4), .ref (u2 5), .ref (u2 6), .int 0, .int 0])), ((u2 1), .inl (g.2.2.1, 56, .inl (fun _ => 0))), ((u2 2), .inl (g.2.2.1, 8, .inl (fun _ => 0))), ((u2 3), .inl (g.2.2.1, 8, .inl (fun _ => 0))), ((u2 4), .inl (g.2.2.1, 8, .inl (fun _ => 0))), ((u2 5), .inl (g.2.2.1, 6, .inl (fun _ => 0))), ((u2 6), .inl (g.2.2.1, 6, .inl (fun _ => 0))), (q3, .inl (g.2.2.1, 6, .inl (fun _ => 0)))] H := hP
  have hD : va_D A [(h0, .inr (7, [.ref (u2 0), .ref q3, .null, .int 0])), ((u2 0), .inr (4, [.ref (u2 1), .ref (u2 2), .ref (u2 3), .ref (u2 4), .ref (u2 5), .ref (u2 6), .int 0, .int 0])), ((u2 1), .inl (g.2.2.1, 56, .inl (fun _ => 0))), ((u2 2), .inl (g.2.2.1, 8, .inl (fun _ => 0))), ((u2 3), .inl (g.2.2.1, 8, .inl (fun _ => 0))), ((u2 4), .inl (g.2.2.1, 8, .inl (fun _ => 0))), ((u2 5), .inl (g.2.2.1, 6, .inl (fun _ => 0))), ((u2 6), .inl (g.2.2.1, 6, .inl (fun _ => 0))), (q3, .inl (g.2.2.1, 6, .inl (fun _ => 0)))] := hD
  refine lv_aload_n hx hb dX9_init_23 rfl (lv_at hl 0 rfl) ?_
  refine lv_bipush (v := 48) hx hb dX9_init_24 (by decide) ?_
  refine z_newi (n := 48) (N' := 48) C hK hP hD hS hA (by decide) (by decide) (by decide) (Nat.le_of_ble_eq_true rfl) (Nat.le_of_ble_eq_true rfl) dX9_init_26 (fun q4 H hP hD hS => ?_)
  have hP : va_P g.1 clsL [(h0, .inr (7, [.ref (u2 0), .ref q3, .null, .int 0])), ((u2 0), .inr (4, [.ref (u2 1), .ref (u2 2), .ref (u2 3), .ref (u2 4), .ref (u2 5), .ref (u2 6), .int 0, .int 0])), ((u2 1), .inl (g.2.2.1, 56, .inl (fun _ => 0))), ((u2 2), .inl (g.2.2.1, 8, .inl (fun _ => 0))), ((u2 3), .inl (g.2.2.1, 8, .inl (fun _ => 0))), ((u2 4), .inl (g.2.2.1, 8, .inl (fun _ => 0))), ((u2 5), .inl (g.2.2.1, 6, .inl (fun _ => 0))), ((u2 6), .inl (g.2.2.1, 6, .inl (fun _ => 0))), (q3, .inl (g.2.2.1, 6, .inl (fun _ => 0))), (q4, .inl (g.2.2.1, 48, .inl (fun _ => 0)))] H := hP
  have hD : va_D A [(h0, .inr (7, [.ref (u2 0), .ref q3, .null, .int 0])), ((u2 0), .inr (4, [.ref (u2 1), .ref (u2 2), .ref (u2 3), .ref (u2 4), .ref (u2 5), .ref (u2 6), .int 0, .int 0])), ((u2 1), .inl (g.2.2.1, 56, .inl (fun _ => 0))), ((u2 2), .inl (g.2.2.1, 8, .inl (fun _ => 0))), ((u2 3), .inl (g.2.2.1, 8, .inl (fun _ => 0))), ((u2 4), .inl (g.2.2.1, 8, .inl (fun _ => 0))), ((u2 5), .inl (g.2.2.1, 6, .inl (fun _ => 0))), ((u2 6), .inl (g.2.2.1, 6, .inl (fun _ => 0))), (q3, .inl (g.2.2.1, 6, .inl (fun _ => 0))), (q4, .inl (g.2.2.1, 48, .inl (fun _ => 0)))] := hD
  refine W.widen (k := 9) (n := 154) (Nat.le_of_ble_eq_true rfl) (Nat.le_of_ble_eq_true rfl) ?_
  refine va_putF (D := g.1) (ci := 7) (v := .ref q4) (ty := .array .int) (C := RX9) (T := TX9) (N := 4) hx hb C.2.2.2.2 inX9 tyX9 tyX9_ok nmX9 C.2.2.2.1 hK hP hD hS 0 rfl rfl 2 (by decide) (C.2.2.2.2 _ mw_209) (fun _ h9 => h9) rfl hin rfl (by decide +kernel) rfl rfl (Nat.le_of_ble_eq_true rfl) dX9_init_28 (fun H locs hP hD hS => ?_)
  have hP : va_P g.1 clsL [(h0, .inr (7, [.ref (u2 0), .ref q3, .ref q4, .int 0])), ((u2 0), .inr (4, [.ref (u2 1), .ref (u2 2), .ref (u2 3), .ref (u2 4), .ref (u2 5), .ref (u2 6), .int 0, .int 0])), ((u2 1), .inl (g.2.2.1, 56, .inl (fun _ => 0))), ((u2 2), .inl (g.2.2.1, 8, .inl (fun _ => 0))), ((u2 3), .inl (g.2.2.1, 8, .inl (fun _ => 0))), ((u2 4), .inl (g.2.2.1, 8, .inl (fun _ => 0))), ((u2 5), .inl (g.2.2.1, 6, .inl (fun _ => 0))), ((u2 6), .inl (g.2.2.1, 6, .inl (fun _ => 0))), (q3, .inl (g.2.2.1, 6, .inl (fun _ => 0))), (q4, .inl (g.2.2.1, 48, .inl (fun _ => 0)))] H := hP
  have hD : va_D A [(h0, .inr (7, [.ref (u2 0), .ref q3, .ref q4, .int 0])), ((u2 0), .inr (4, [.ref (u2 1), .ref (u2 2), .ref (u2 3), .ref (u2 4), .ref (u2 5), .ref (u2 6), .int 0, .int 0])), ((u2 1), .inl (g.2.2.1, 56, .inl (fun _ => 0))), ((u2 2), .inl (g.2.2.1, 8, .inl (fun _ => 0))), ((u2 3), .inl (g.2.2.1, 8, .inl (fun _ => 0))), ((u2 4), .inl (g.2.2.1, 8, .inl (fun _ => 0))), ((u2 5), .inl (g.2.2.1, 6, .inl (fun _ => 0))), ((u2 6), .inl (g.2.2.1, 6, .inl (fun _ => 0))), (q3, .inl (g.2.2.1, 6, .inl (fun _ => 0))), (q4, .inl (g.2.2.1, 48, .inl (fun _ => 0)))] := hD
  subst hAe
  exact z_ret (w1 := fun u => [((u 0), .inr (7, [.ref (u 1), .ref (u 8), .ref (u 9), .int 0])), ((u 1), .inr (4, [.ref (u 2), .ref (u 3), .ref (u 4), .ref (u 5), .ref (u 6), .ref (u 7), .int 0, .int 0])), ((u 2), .inl (g.2.2.1, 56, .inl (fun _ => 0))), ((u 3), .inl (g.2.2.1, 8, .inl (fun _ => 0))), ((u 4), .inl (g.2.2.1, 8, .inl (fun _ => 0))), ((u 5), .inl (g.2.2.1, 8, .inl (fun _ => 0))), ((u 6), .inl (g.2.2.1, 6, .inl (fun _ => 0))), ((u 7), .inl (g.2.2.1, 6, .inl (fun _ => 0))), ((u 8), .inl (g.2.2.1, 6, .inl (fun _ => 0))), ((u 9), .inl (g.2.2.1, 48, .inl (fun _ => 0)))]) C hr hlk (fun k => match k with | 0 => h0 | 1 => (u2 0) | 2 => (u2 1) | 3 => (u2 2) | 4 => (u2 3) | 5 => (u2 4) | 6 => (u2 5) | 7 => (u2 6) | 8 => q3 | 9 => q4 | _ => 0) rfl hP hD hS dX9_init_31
set_option maxHeartbeats 8000000 in
set_option maxRecDepth 100000 in
theorem ci_X8 (l : Launch) (g : GG) (h0 : Nat) : MC l g yX8_init (Cond.code yX8_init cX8_init 1 none :: gtbl) (rmC 2 6 44) h0 [] (.inr (6, [.null, .null, .null, .null, .null, .null, .int 0, .int 0, .int 0])) (fun u => [((u 0), .inr (6, [.ref (u 1), .ref (u 2), .ref (u 3), .ref (u 4), .ref (u 5), .ref (u 6), .int 0, .int 0, .int 0])), ((u 1), .inl (g.2.2.1, 8, .inl (fun _ => 0))), ((u 2), .inl (g.2.2.1, 8, .inl (fun _ => 0))), ((u 3), .inl (g.2.2.1, 8, .inl (fun _ => 0))), ((u 4), .inl (g.2.2.1, 8, .inl (fun _ => 0))), ((u 5), .inl (g.2.2.1, 6, .inl (fun _ => 0))), ((u 6), .inl (g.2.2.1, 6, .inl (fun _ => 0)))]) 6 44 := by
  refine mc_of (own := RX8) (lv := [(0, .ref h0)]) (by decide) rfl rfl (Nat.le_of_ble_eq_true rfl) rfl (fun p e s m below meth c ls C hr hlk hin hK hN hP hD hA hl => ?_)
  have hx := C.1
  have hb := C.2.1
  have hS : va_S (va_A [(h0, .inr (6, [.null, .null, .null, .null, .null, .null, .int 0, .int 0, .int 0]))] s.heap.size) s.heap s.heap [] := va_S.rf
  generalize hAe : va_A [(h0, .inr (6, [.null, .null, .null, .null, .null, .null, .int 0, .int 0, .int 0]))] s.heap.size = A at hD hS hA
  refine lv_aload_n hx hb dX8_init_0 rfl (lv_at hl 0 rfl) ?_
  refine W.objInit hx hb C.2.2.2.1 (C.2.2.2.2 _ mw_97) (C.2.2.2.2 _ mw_68) (C.2.2.2.2 _ mw_69) rfl (hl.1.trans C.2.2.1.symm) rfl dX8_init_1 (Nat.le_of_ble_eq_true rfl) (Nat.le_of_ble_eq_true rfl) ?_
  refine W.eq (g2 := F0 m 4 ls []) rfl ?_
  refine lv_aload_n hx hb dX8_init_4 rfl (lv_at hl 0 rfl) ?_
  refine lv_bipush (v := 8) hx hb dX8_init_5 (by decide) ?_
  refine z_newi (n := 8) (N' := 8) C hK hP hD hS hA (by decide) (by decide) (by decide) (Nat.le_of_ble_eq_true rfl) (Nat.le_of_ble_eq_true rfl) dX8_init_7 (fun q1 H hP hD hS => ?_)
  have hP : va_P g.1 clsL [(h0, .inr (6, [.null, .null, .null, .null, .null, .null, .int 0, .int 0, .int 0])), (q1, .inl (g.2.2.1, 8, .inl (fun _ => 0)))] H := hP
  have hD : va_D A [(h0, .inr (6, [.null, .null, .null, .null, .null, .null, .int 0, .int 0, .int 0])), (q1, .inl (g.2.2.1, 8, .inl (fun _ => 0)))] := hD
  refine W.widen (k := 1) (n := 8) (Nat.le_of_ble_eq_true rfl) (Nat.le_of_ble_eq_true rfl) ?_
  refine va_putF (D := g.1) (ci := 6) (v := .ref q1) (ty := .array .int) (C := RX8) (T := TX8) (N := 9) hx hb C.2.2.2.2 inX8 tyX8 tyX8_ok nmX8 C.2.2.2.1 hK hP hD hS 0 rfl rfl 0 (by decide) (C.2.2.2.2 _ mw_98) (fun _ h9 => h9) rfl hin rfl (by decide +kernel) rfl rfl (Nat.le_of_ble_eq_true rfl) dX8_init_9 (fun H locs hP hD hS => ?_)
  have hP : va_P g.1 clsL [(h0, .inr (6, [.ref q1, .null, .null, .null, .null, .null, .int 0, .int 0, .int 0])), (q1, .inl (g.2.2.1, 8, .inl (fun _ => 0)))] H := hP
  have hD : va_D A [(h0, .inr (6, [.ref q1, .null, .null, .null, .null, .null, .int 0, .int 0, .int 0])), (q1, .inl (g.2.2.1, 8, .inl (fun _ => 0)))] := hD
  refine lv_aload_n hx hb dX8_init_12 rfl (lv_at hl 0 rfl) ?_
  refine lv_bipush (v := 8) hx hb dX8_init_13 (by decide) ?_
  refine z_newi (n := 8) (N' := 8) C hK hP hD hS hA (by decide) (by decide) (by decide) (Nat.le_of_ble_eq_true rfl) (Nat.le_of_ble_eq_true rfl) dX8_init_15 (fun q2 H hP hD hS => ?_)
  have hP : va_P g.1 clsL [(h0, .inr (6, [.ref q1, .null, .null, .null, .null, .null, .int 0, .int 0, .int 0])), (q1, .inl (g.2.2.1, 8, .inl (fun _ => 0))), (q2, .inl (g.2.2.1, 8, .inl (fun _ => 0)))] H := hP
  have hD : va_D A [(h0, .inr (6, [.ref q1, .null, .null, .null, .null, .null, .int 0, .int 0, .int 0])), (q1, .inl (g.2.2.1, 8, .inl (fun _ => 0))), (q2, .inl (g.2.2.1, 8, .inl (fun _ => 0)))] := hD
  refine W.widen (k := 2) (n := 16) (Nat.le_of_ble_eq_true rfl) (Nat.le_of_ble_eq_true rfl) ?_
  refine va_putF (D := g.1) (ci := 6) (v := .ref q2) (ty := .array .int) (C := RX8) (T := TX8) (N := 9) hx hb C.2.2.2.2 inX8 tyX8 tyX8_ok nmX8 C.2.2.2.1 hK hP hD hS 0 rfl rfl 1 (by decide) (C.2.2.2.2 _ mw_100) (fun _ h9 => h9) rfl hin rfl (by decide +kernel) rfl rfl (Nat.le_of_ble_eq_true rfl) dX8_init_17 (fun H locs hP hD hS => ?_)
  have hP : va_P g.1 clsL [(h0, .inr (6, [.ref q1, .ref q2, .null, .null, .null, .null, .int 0, .int 0, .int 0])), (q1, .inl (g.2.2.1, 8, .inl (fun _ => 0))), (q2, .inl (g.2.2.1, 8, .inl (fun _ => 0)))] H := hP
  have hD : va_D A [(h0, .inr (6, [.ref q1, .ref q2, .null, .null, .null, .null, .int 0, .int 0, .int 0])), (q1, .inl (g.2.2.1, 8, .inl (fun _ => 0))), (q2, .inl (g.2.2.1, 8, .inl (fun _ => 0)))] := hD
  refine lv_aload_n hx hb dX8_init_20 rfl (lv_at hl 0 rfl) ?_
  refine lv_bipush (v := 8) hx hb dX8_init_21 (by decide) ?_
  refine z_newi (n := 8) (N' := 8) C hK hP hD hS hA (by decide) (by decide) (by decide) (Nat.le_of_ble_eq_true rfl) (Nat.le_of_ble_eq_true rfl) dX8_init_23 (fun q3 H hP hD hS => ?_)
  have hP : va_P g.1 clsL [(h0, .inr (6, [.ref q1, .ref q2, .null, .null, .null, .null, .int 0, .int 0, .int 0])), (q1, .inl (g.2.2.1, 8, .inl (fun _ => 0))), (q2, .inl (g.2.2.1, 8, .inl (fun _ => 0))), (q3, .inl (g.2.2.1, 8, .inl (fun _ => 0)))] H := hP
  have hD : va_D A [(h0, .inr (6, [.ref q1, .ref q2, .null, .null, .null, .null, .int 0, .int 0, .int 0])), (q1, .inl (g.2.2.1, 8, .inl (fun _ => 0))), (q2, .inl (g.2.2.1, 8, .inl (fun _ => 0))), (q3, .inl (g.2.2.1, 8, .inl (fun _ => 0)))] := hD
  refine W.widen (k := 3) (n := 24) (Nat.le_of_ble_eq_true rfl) (Nat.le_of_ble_eq_true rfl) ?_
  refine va_putF (D := g.1) (ci := 6) (v := .ref q3) (ty := .array .int) (C := RX8) (T := TX8) (N := 9) hx hb C.2.2.2.2 inX8 tyX8 tyX8_ok nmX8 C.2.2.2.1 hK hP hD hS 0 rfl rfl 2 (by decide) (C.2.2.2.2 _ mw_102) (fun _ h9 => h9) rfl hin rfl (by decide +kernel) rfl rfl (Nat.le_of_ble_eq_true rfl) dX8_init_25 (fun H locs hP hD hS => ?_)
  have hP : va_P g.1 clsL [(h0, .inr (6, [.ref q1, .ref q2, .ref q3, .null, .null, .null, .int 0, .int 0, .int 0])), (q1, .inl (g.2.2.1, 8, .inl (fun _ => 0))), (q2, .inl (g.2.2.1, 8, .inl (fun _ => 0))), (q3, .inl (g.2.2.1, 8, .inl (fun _ => 0)))] H := hP
  have hD : va_D A [(h0, .inr (6, [.ref q1, .ref q2, .ref q3, .null, .null, .null, .int 0, .int 0, .int 0])), (q1, .inl (g.2.2.1, 8, .inl (fun _ => 0))), (q2, .inl (g.2.2.1, 8, .inl (fun _ => 0))), (q3, .inl (g.2.2.1, 8, .inl (fun _ => 0)))] := hD
  refine lv_aload_n hx hb dX8_init_28 rfl (lv_at hl 0 rfl) ?_
  refine lv_bipush (v := 8) hx hb dX8_init_29 (by decide) ?_
  refine z_newi (n := 8) (N' := 8) C hK hP hD hS hA (by decide) (by decide) (by decide) (Nat.le_of_ble_eq_true rfl) (Nat.le_of_ble_eq_true rfl) dX8_init_31 (fun q4 H hP hD hS => ?_)
  have hP : va_P g.1 clsL [(h0, .inr (6, [.ref q1, .ref q2, .ref q3, .null, .null, .null, .int 0, .int 0, .int 0])), (q1, .inl (g.2.2.1, 8, .inl (fun _ => 0))), (q2, .inl (g.2.2.1, 8, .inl (fun _ => 0))), (q3, .inl (g.2.2.1, 8, .inl (fun _ => 0))), (q4, .inl (g.2.2.1, 8, .inl (fun _ => 0)))] H := hP
  have hD : va_D A [(h0, .inr (6, [.ref q1, .ref q2, .ref q3, .null, .null, .null, .int 0, .int 0, .int 0])), (q1, .inl (g.2.2.1, 8, .inl (fun _ => 0))), (q2, .inl (g.2.2.1, 8, .inl (fun _ => 0))), (q3, .inl (g.2.2.1, 8, .inl (fun _ => 0))), (q4, .inl (g.2.2.1, 8, .inl (fun _ => 0)))] := hD
  refine W.widen (k := 4) (n := 32) (Nat.le_of_ble_eq_true rfl) (Nat.le_of_ble_eq_true rfl) ?_
  refine va_putF (D := g.1) (ci := 6) (v := .ref q4) (ty := .array .int) (C := RX8) (T := TX8) (N := 9) hx hb C.2.2.2.2 inX8 tyX8 tyX8_ok nmX8 C.2.2.2.1 hK hP hD hS 0 rfl rfl 3 (by decide) (C.2.2.2.2 _ mw_104) (fun _ h9 => h9) rfl hin rfl (by decide +kernel) rfl rfl (Nat.le_of_ble_eq_true rfl) dX8_init_33 (fun H locs hP hD hS => ?_)
  have hP : va_P g.1 clsL [(h0, .inr (6, [.ref q1, .ref q2, .ref q3, .ref q4, .null, .null, .int 0, .int 0, .int 0])), (q1, .inl (g.2.2.1, 8, .inl (fun _ => 0))), (q2, .inl (g.2.2.1, 8, .inl (fun _ => 0))), (q3, .inl (g.2.2.1, 8, .inl (fun _ => 0))), (q4, .inl (g.2.2.1, 8, .inl (fun _ => 0)))] H := hP
  have hD : va_D A [(h0, .inr (6, [.ref q1, .ref q2, .ref q3, .ref q4, .null, .null, .int 0, .int 0, .int 0])), (q1, .inl (g.2.2.1, 8, .inl (fun _ => 0))), (q2, .inl (g.2.2.1, 8, .inl (fun _ => 0))), (q3, .inl (g.2.2.1, 8, .inl (fun _ => 0))), (q4, .inl (g.2.2.1, 8, .inl (fun _ => 0)))] := hD
  refine lv_aload_n hx hb dX8_init_36 rfl (lv_at hl 0 rfl) ?_
  refine lv_bipush (v := 6) hx hb dX8_init_37 (by decide) ?_
  refine z_newi (n := 6) (N' := 6) C hK hP hD hS hA (by decide) (by decide) (by decide) (Nat.le_of_ble_eq_true rfl) (Nat.le_of_ble_eq_true rfl) dX8_init_39 (fun q5 H hP hD hS => ?_)
  have hP : va_P g.1 clsL [(h0, .inr (6, [.ref q1, .ref q2, .ref q3, .ref q4, .null, .null, .int 0, .int 0, .int 0])), (q1, .inl (g.2.2.1, 8, .inl (fun _ => 0))), (q2, .inl (g.2.2.1, 8, .inl (fun _ => 0))), (q3, .inl (g.2.2.1, 8, .inl (fun _ => 0))), (q4, .inl (g.2.2.1, 8, .inl (fun _ => 0))), (q5, .inl (g.2.2.1, 6, .inl (fun _ => 0)))] H := hP
  have hD : va_D A [(h0, .inr (6, [.ref q1, .ref q2, .ref q3, .ref q4, .null, .null, .int 0, .int 0, .int 0])), (q1, .inl (g.2.2.1, 8, .inl (fun _ => 0))), (q2, .inl (g.2.2.1, 8, .inl (fun _ => 0))), (q3, .inl (g.2.2.1, 8, .inl (fun _ => 0))), (q4, .inl (g.2.2.1, 8, .inl (fun _ => 0))), (q5, .inl (g.2.2.1, 6, .inl (fun _ => 0)))] := hD
  refine W.widen (k := 5) (n := 38) (Nat.le_of_ble_eq_true rfl) (Nat.le_of_ble_eq_true rfl) ?_
  refine va_putF (D := g.1) (ci := 6) (v := .ref q5) (ty := .array .int) (C := RX8) (T := TX8) (N := 9) hx hb C.2.2.2.2 inX8 tyX8 tyX8_ok nmX8 C.2.2.2.1 hK hP hD hS 0 rfl rfl 4 (by decide) (C.2.2.2.2 _ mw_106) (fun _ h9 => h9) rfl hin rfl (by decide +kernel) rfl rfl (Nat.le_of_ble_eq_true rfl) dX8_init_41 (fun H locs hP hD hS => ?_)
  have hP : va_P g.1 clsL [(h0, .inr (6, [.ref q1, .ref q2, .ref q3, .ref q4, .ref q5, .null, .int 0, .int 0, .int 0])), (q1, .inl (g.2.2.1, 8, .inl (fun _ => 0))), (q2, .inl (g.2.2.1, 8, .inl (fun _ => 0))), (q3, .inl (g.2.2.1, 8, .inl (fun _ => 0))), (q4, .inl (g.2.2.1, 8, .inl (fun _ => 0))), (q5, .inl (g.2.2.1, 6, .inl (fun _ => 0)))] H := hP
  have hD : va_D A [(h0, .inr (6, [.ref q1, .ref q2, .ref q3, .ref q4, .ref q5, .null, .int 0, .int 0, .int 0])), (q1, .inl (g.2.2.1, 8, .inl (fun _ => 0))), (q2, .inl (g.2.2.1, 8, .inl (fun _ => 0))), (q3, .inl (g.2.2.1, 8, .inl (fun _ => 0))), (q4, .inl (g.2.2.1, 8, .inl (fun _ => 0))), (q5, .inl (g.2.2.1, 6, .inl (fun _ => 0)))] := hD
  refine lv_aload_n hx hb dX8_init_44 rfl (lv_at hl 0 rfl) ?_
  refine lv_bipush (v := 6) hx hb dX8_init_45 (by decide) ?_
  refine z_newi (n := 6) (N' := 6) C hK hP hD hS hA (by decide) (by decide) (by decide) (Nat.le_of_ble_eq_true rfl) (Nat.le_of_ble_eq_true rfl) dX8_init_47 (fun q6 H hP hD hS => ?_)
  have hP : va_P g.1 clsL [(h0, .inr (6, [.ref q1, .ref q2, .ref q3, .ref q4, .ref q5, .null, .int 0, .int 0, .int 0])), (q1, .inl (g.2.2.1, 8, .inl (fun _ => 0))), (q2, .inl (g.2.2.1, 8, .inl (fun _ => 0))), (q3, .inl (g.2.2.1, 8, .inl (fun _ => 0))), (q4, .inl (g.2.2.1, 8, .inl (fun _ => 0))), (q5, .inl (g.2.2.1, 6, .inl (fun _ => 0))), (q6, .inl (g.2.2.1, 6, .inl (fun _ => 0)))] H := hP
  have hD : va_D A [(h0, .inr (6, [.ref q1, .ref q2, .ref q3, .ref q4, .ref q5, .null, .int 0, .int 0, .int 0])), (q1, .inl (g.2.2.1, 8, .inl (fun _ => 0))), (q2, .inl (g.2.2.1, 8, .inl (fun _ => 0))), (q3, .inl (g.2.2.1, 8, .inl (fun _ => 0))), (q4, .inl (g.2.2.1, 8, .inl (fun _ => 0))), (q5, .inl (g.2.2.1, 6, .inl (fun _ => 0))), (q6, .inl (g.2.2.1, 6, .inl (fun _ => 0)))] := hD
  refine W.widen (k := 6) (n := 44) (Nat.le_of_ble_eq_true rfl) (Nat.le_of_ble_eq_true rfl) ?_
  refine va_putF (D := g.1) (ci := 6) (v := .ref q6) (ty := .array .int) (C := RX8) (T := TX8) (N := 9) hx hb C.2.2.2.2 inX8 tyX8 tyX8_ok nmX8 C.2.2.2.1 hK hP hD hS 0 rfl rfl 5 (by decide) (C.2.2.2.2 _ mw_108) (fun _ h9 => h9) rfl hin rfl (by decide +kernel) rfl rfl (Nat.le_of_ble_eq_true rfl) dX8_init_49 (fun H locs hP hD hS => ?_)
  have hP : va_P g.1 clsL [(h0, .inr (6, [.ref q1, .ref q2, .ref q3, .ref q4, .ref q5, .ref q6, .int 0, .int 0, .int 0])), (q1, .inl (g.2.2.1, 8, .inl (fun _ => 0))), (q2, .inl (g.2.2.1, 8, .inl (fun _ => 0))), (q3, .inl (g.2.2.1, 8, .inl (fun _ => 0))), (q4, .inl (g.2.2.1, 8, .inl (fun _ => 0))), (q5, .inl (g.2.2.1, 6, .inl (fun _ => 0))), (q6, .inl (g.2.2.1, 6, .inl (fun _ => 0)))] H := hP
  have hD : va_D A [(h0, .inr (6, [.ref q1, .ref q2, .ref q3, .ref q4, .ref q5, .ref q6, .int 0, .int 0, .int 0])), (q1, .inl (g.2.2.1, 8, .inl (fun _ => 0))), (q2, .inl (g.2.2.1, 8, .inl (fun _ => 0))), (q3, .inl (g.2.2.1, 8, .inl (fun _ => 0))), (q4, .inl (g.2.2.1, 8, .inl (fun _ => 0))), (q5, .inl (g.2.2.1, 6, .inl (fun _ => 0))), (q6, .inl (g.2.2.1, 6, .inl (fun _ => 0)))] := hD
  subst hAe
  exact z_ret (w1 := fun u => [((u 0), .inr (6, [.ref (u 1), .ref (u 2), .ref (u 3), .ref (u 4), .ref (u 5), .ref (u 6), .int 0, .int 0, .int 0])), ((u 1), .inl (g.2.2.1, 8, .inl (fun _ => 0))), ((u 2), .inl (g.2.2.1, 8, .inl (fun _ => 0))), ((u 3), .inl (g.2.2.1, 8, .inl (fun _ => 0))), ((u 4), .inl (g.2.2.1, 8, .inl (fun _ => 0))), ((u 5), .inl (g.2.2.1, 6, .inl (fun _ => 0))), ((u 6), .inl (g.2.2.1, 6, .inl (fun _ => 0)))]) C hr hlk (fun k => match k with | 0 => h0 | 1 => q1 | 2 => q2 | 3 => q3 | 4 => q4 | 5 => q5 | 6 => q6 | _ => 0) rfl hP hD hS dX8_init_52
set_option maxHeartbeats 8000000 in
set_option maxRecDepth 100000 in
theorem ci_X4 (l : Launch) (g : GG) (h0 : Nat) : MC l g yX4_init (Cond.code yX4_init cX4_init 1 none :: gtbl) (rmC 2 4 64) h0 [] (.inr (3, [.null, .null, .null, .null])) (fun u => [((u 0), .inr (3, [.ref (u 1), .ref (u 2), .ref (u 3), .ref (u 4)])), ((u 1), .inl (g.2.2.1, 8, .inl (fun _ => 0))), ((u 2), .inl (g.2.2.1, 8, .inl (fun _ => 0))), ((u 3), .inl (g.2.2.1, 42, .inl (fun _ => 0))), ((u 4), .inl (g.2.2.1, 6, .inl (fun _ => 0)))]) 4 64 := by
  refine mc_of (own := RX4) (lv := [(0, .ref h0)]) (by decide) rfl rfl (Nat.le_of_ble_eq_true rfl) rfl (fun p e s m below meth c ls C hr hlk hin hK hN hP hD hA hl => ?_)
  have hx := C.1
  have hb := C.2.1
  have hS : va_S (va_A [(h0, .inr (3, [.null, .null, .null, .null]))] s.heap.size) s.heap s.heap [] := va_S.rf
  generalize hAe : va_A [(h0, .inr (3, [.null, .null, .null, .null]))] s.heap.size = A at hD hS hA
  refine lv_aload_n hx hb dX4_init_0 rfl (lv_at hl 0 rfl) ?_
  refine W.objInit hx hb C.2.2.2.1 (C.2.2.2.2 _ mw_248) (C.2.2.2.2 _ mw_68) (C.2.2.2.2 _ mw_69) rfl (hl.1.trans C.2.2.1.symm) rfl dX4_init_1 (Nat.le_of_ble_eq_true rfl) (Nat.le_of_ble_eq_true rfl) ?_
  refine W.eq (g2 := F0 m 4 ls []) rfl ?_
  refine lv_aload_n hx hb dX4_init_4 rfl (lv_at hl 0 rfl) ?_
  refine lv_bipush (v := 8) hx hb dX4_init_5 (by decide) ?_
  refine z_newi (n := 8) (N' := 8) C hK hP hD hS hA (by decide) (by decide) (by decide) (Nat.le_of_ble_eq_true rfl) (Nat.le_of_ble_eq_true rfl) dX4_init_7 (fun q1 H hP hD hS => ?_)
  have hP : va_P g.1 clsL [(h0, .inr (3, [.null, .null, .null, .null])), (q1, .inl (g.2.2.1, 8, .inl (fun _ => 0)))] H := hP
  have hD : va_D A [(h0, .inr (3, [.null, .null, .null, .null])), (q1, .inl (g.2.2.1, 8, .inl (fun _ => 0)))] := hD
  refine W.widen (k := 1) (n := 8) (Nat.le_of_ble_eq_true rfl) (Nat.le_of_ble_eq_true rfl) ?_
  refine va_putF (D := g.1) (ci := 3) (v := .ref q1) (ty := .array .int) (C := RX4) (T := TX4) (N := 4) hx hb C.2.2.2.2 inX4 tyX4 tyX4_ok nmX4 C.2.2.2.1 hK hP hD hS 0 rfl rfl 0 (by decide) (C.2.2.2.2 _ mw_249) (fun _ h9 => h9) rfl hin rfl (by decide +kernel) rfl rfl (Nat.le_of_ble_eq_true rfl) dX4_init_9 (fun H locs hP hD hS => ?_)
  have hP : va_P g.1 clsL [(h0, .inr (3, [.ref q1, .null, .null, .null])), (q1, .inl (g.2.2.1, 8, .inl (fun _ => 0)))] H := hP
  have hD : va_D A [(h0, .inr (3, [.ref q1, .null, .null, .null])), (q1, .inl (g.2.2.1, 8, .inl (fun _ => 0)))] := hD
  refine lv_aload_n hx hb dX4_init_12 rfl (lv_at hl 0 rfl) ?_
  refine lv_bipush (v := 8) hx hb dX4_init_13 (by decide) ?_
  refine z_newi (n := 8) (N' := 8) C hK hP hD hS hA (by decide) (by decide) (by decide) (Nat.le_of_ble_eq_true rfl) (Nat.le_of_ble_eq_true rfl) dX4_init_15 (fun q2 H hP hD hS => ?_)
  have hP : va_P g.1 clsL [(h0, .inr (3, [.ref q1, .null, .null, .null])), (q1, .inl (g.2.2.1, 8, .inl (fun _ => 0))), (q2, .inl (g.2.2.1, 8, .inl (fun _ => 0)))] H := hP
  have hD : va_D A [(h0, .inr (3, [.ref q1, .null, .null, .null])), (q1, .inl (g.2.2.1, 8, .inl (fun _ => 0))), (q2, .inl (g.2.2.1, 8, .inl (fun _ => 0)))] := hD
  refine W.widen (k := 2) (n := 16) (Nat.le_of_ble_eq_true rfl) (Nat.le_of_ble_eq_true rfl) ?_
  refine va_putF (D := g.1) (ci := 3) (v := .ref q2) (ty := .array .int) (C := RX4) (T := TX4) (N := 4) hx hb C.2.2.2.2 inX4 tyX4 tyX4_ok nmX4 C.2.2.2.1 hK hP hD hS 0 rfl rfl 1 (by decide) (C.2.2.2.2 _ mw_250) (fun _ h9 => h9) rfl hin rfl (by decide +kernel) rfl rfl (Nat.le_of_ble_eq_true rfl) dX4_init_17 (fun H locs hP hD hS => ?_)
  have hP : va_P g.1 clsL [(h0, .inr (3, [.ref q1, .ref q2, .null, .null])), (q1, .inl (g.2.2.1, 8, .inl (fun _ => 0))), (q2, .inl (g.2.2.1, 8, .inl (fun _ => 0)))] H := hP
  have hD : va_D A [(h0, .inr (3, [.ref q1, .ref q2, .null, .null])), (q1, .inl (g.2.2.1, 8, .inl (fun _ => 0))), (q2, .inl (g.2.2.1, 8, .inl (fun _ => 0)))] := hD
  refine lv_aload_n hx hb dX4_init_20 rfl (lv_at hl 0 rfl) ?_
  refine lv_bipush (v := 42) hx hb dX4_init_21 (by decide) ?_
  refine z_newi (n := 42) (N' := 42) C hK hP hD hS hA (by decide) (by decide) (by decide) (Nat.le_of_ble_eq_true rfl) (Nat.le_of_ble_eq_true rfl) dX4_init_23 (fun q3 H hP hD hS => ?_)
  have hP : va_P g.1 clsL [(h0, .inr (3, [.ref q1, .ref q2, .null, .null])), (q1, .inl (g.2.2.1, 8, .inl (fun _ => 0))), (q2, .inl (g.2.2.1, 8, .inl (fun _ => 0))), (q3, .inl (g.2.2.1, 42, .inl (fun _ => 0)))] H := hP
  have hD : va_D A [(h0, .inr (3, [.ref q1, .ref q2, .null, .null])), (q1, .inl (g.2.2.1, 8, .inl (fun _ => 0))), (q2, .inl (g.2.2.1, 8, .inl (fun _ => 0))), (q3, .inl (g.2.2.1, 42, .inl (fun _ => 0)))] := hD
  refine W.widen (k := 3) (n := 58) (Nat.le_of_ble_eq_true rfl) (Nat.le_of_ble_eq_true rfl) ?_
  refine va_putF (D := g.1) (ci := 3) (v := .ref q3) (ty := .array .int) (C := RX4) (T := TX4) (N := 4) hx hb C.2.2.2.2 inX4 tyX4 tyX4_ok nmX4 C.2.2.2.1 hK hP hD hS 0 rfl rfl 2 (by decide) (C.2.2.2.2 _ mw_251) (fun _ h9 => h9) rfl hin rfl (by decide +kernel) rfl rfl (Nat.le_of_ble_eq_true rfl) dX4_init_25 (fun H locs hP hD hS => ?_)
  have hP : va_P g.1 clsL [(h0, .inr (3, [.ref q1, .ref q2, .ref q3, .null])), (q1, .inl (g.2.2.1, 8, .inl (fun _ => 0))), (q2, .inl (g.2.2.1, 8, .inl (fun _ => 0))), (q3, .inl (g.2.2.1, 42, .inl (fun _ => 0)))] H := hP
  have hD : va_D A [(h0, .inr (3, [.ref q1, .ref q2, .ref q3, .null])), (q1, .inl (g.2.2.1, 8, .inl (fun _ => 0))), (q2, .inl (g.2.2.1, 8, .inl (fun _ => 0))), (q3, .inl (g.2.2.1, 42, .inl (fun _ => 0)))] := hD
  refine lv_aload_n hx hb dX4_init_28 rfl (lv_at hl 0 rfl) ?_
  refine lv_bipush (v := 6) hx hb dX4_init_29 (by decide) ?_
  refine z_newi (n := 6) (N' := 6) C hK hP hD hS hA (by decide) (by decide) (by decide) (Nat.le_of_ble_eq_true rfl) (Nat.le_of_ble_eq_true rfl) dX4_init_31 (fun q4 H hP hD hS => ?_)
  have hP : va_P g.1 clsL [(h0, .inr (3, [.ref q1, .ref q2, .ref q3, .null])), (q1, .inl (g.2.2.1, 8, .inl (fun _ => 0))), (q2, .inl (g.2.2.1, 8, .inl (fun _ => 0))), (q3, .inl (g.2.2.1, 42, .inl (fun _ => 0))), (q4, .inl (g.2.2.1, 6, .inl (fun _ => 0)))] H := hP
  have hD : va_D A [(h0, .inr (3, [.ref q1, .ref q2, .ref q3, .null])), (q1, .inl (g.2.2.1, 8, .inl (fun _ => 0))), (q2, .inl (g.2.2.1, 8, .inl (fun _ => 0))), (q3, .inl (g.2.2.1, 42, .inl (fun _ => 0))), (q4, .inl (g.2.2.1, 6, .inl (fun _ => 0)))] := hD
  refine W.widen (k := 4) (n := 64) (Nat.le_of_ble_eq_true rfl) (Nat.le_of_ble_eq_true rfl) ?_
  refine va_putF (D := g.1) (ci := 3) (v := .ref q4) (ty := .array .int) (C := RX4) (T := TX4) (N := 4) hx hb C.2.2.2.2 inX4 tyX4 tyX4_ok nmX4 C.2.2.2.1 hK hP hD hS 0 rfl rfl 3 (by decide) (C.2.2.2.2 _ mw_252) (fun _ h9 => h9) rfl hin rfl (by decide +kernel) rfl rfl (Nat.le_of_ble_eq_true rfl) dX4_init_33 (fun H locs hP hD hS => ?_)
  have hP : va_P g.1 clsL [(h0, .inr (3, [.ref q1, .ref q2, .ref q3, .ref q4])), (q1, .inl (g.2.2.1, 8, .inl (fun _ => 0))), (q2, .inl (g.2.2.1, 8, .inl (fun _ => 0))), (q3, .inl (g.2.2.1, 42, .inl (fun _ => 0))), (q4, .inl (g.2.2.1, 6, .inl (fun _ => 0)))] H := hP
  have hD : va_D A [(h0, .inr (3, [.ref q1, .ref q2, .ref q3, .ref q4])), (q1, .inl (g.2.2.1, 8, .inl (fun _ => 0))), (q2, .inl (g.2.2.1, 8, .inl (fun _ => 0))), (q3, .inl (g.2.2.1, 42, .inl (fun _ => 0))), (q4, .inl (g.2.2.1, 6, .inl (fun _ => 0)))] := hD
  subst hAe
  exact z_ret (w1 := fun u => [((u 0), .inr (3, [.ref (u 1), .ref (u 2), .ref (u 3), .ref (u 4)])), ((u 1), .inl (g.2.2.1, 8, .inl (fun _ => 0))), ((u 2), .inl (g.2.2.1, 8, .inl (fun _ => 0))), ((u 3), .inl (g.2.2.1, 42, .inl (fun _ => 0))), ((u 4), .inl (g.2.2.1, 6, .inl (fun _ => 0)))]) C hr hlk (fun k => match k with | 0 => h0 | 1 => q1 | 2 => q2 | 3 => q3 | 4 => q4 | _ => 0) rfl hP hD hS dX4_init_36
set_option maxHeartbeats 8000000 in
set_option maxRecDepth 100000 in
theorem ci_X1 (l : Launch) (g : GG) (h0 : Nat) : MC l g yX1_init (Cond.code yX1_init cX1_init 1 none :: gtbl) (rmC 2 1 6) h0 [] (.inr (1, [.null])) (fun u => [((u 0), .inr (1, [.ref (u 1)])), ((u 1), .inl (g.2.2.1, 6, .inl (fun _ => 0)))]) 1 6 := by
  refine mc_of (own := RX1) (lv := [(0, .ref h0)]) (by decide) rfl rfl (Nat.le_of_ble_eq_true rfl) rfl (fun p e s m below meth c ls C hr hlk hin hK hN hP hD hA hl => ?_)
  have hx := C.1
  have hb := C.2.1
  have hS : va_S (va_A [(h0, .inr (1, [.null]))] s.heap.size) s.heap s.heap [] := va_S.rf
  generalize hAe : va_A [(h0, .inr (1, [.null]))] s.heap.size = A at hD hS hA
  refine lv_aload_n hx hb dX1_init_0 rfl (lv_at hl 0 rfl) ?_
  refine W.objInit hx hb C.2.2.2.1 (C.2.2.2.2 _ mw_267) (C.2.2.2.2 _ mw_68) (C.2.2.2.2 _ mw_69) rfl (hl.1.trans C.2.2.1.symm) rfl dX1_init_1 (Nat.le_of_ble_eq_true rfl) (Nat.le_of_ble_eq_true rfl) ?_
  refine W.eq (g2 := F0 m 4 ls []) rfl ?_
  refine lv_aload_n hx hb dX1_init_4 rfl (lv_at hl 0 rfl) ?_
  refine lv_bipush (v := 6) hx hb dX1_init_5 (by decide) ?_
  refine z_newi (n := 6) (N' := 6) C hK hP hD hS hA (by decide) (by decide) (by decide) (Nat.le_of_ble_eq_true rfl) (Nat.le_of_ble_eq_true rfl) dX1_init_7 (fun q1 H hP hD hS => ?_)
  have hP : va_P g.1 clsL [(h0, .inr (1, [.null])), (q1, .inl (g.2.2.1, 6, .inl (fun _ => 0)))] H := hP
  have hD : va_D A [(h0, .inr (1, [.null])), (q1, .inl (g.2.2.1, 6, .inl (fun _ => 0)))] := hD
  refine W.widen (k := 1) (n := 6) (Nat.le_of_ble_eq_true rfl) (Nat.le_of_ble_eq_true rfl) ?_
  refine va_putF (D := g.1) (ci := 1) (v := .ref q1) (ty := .array .int) (C := RX1) (T := TX1) (N := 1) hx hb C.2.2.2.2 inX1 tyX1 tyX1_ok nmX1 C.2.2.2.1 hK hP hD hS 0 rfl rfl 0 (by decide) (C.2.2.2.2 _ mw_268) (fun _ h9 => h9) rfl hin rfl (by decide +kernel) rfl rfl (Nat.le_of_ble_eq_true rfl) dX1_init_9 (fun H locs hP hD hS => ?_)
  have hP : va_P g.1 clsL [(h0, .inr (1, [.ref q1])), (q1, .inl (g.2.2.1, 6, .inl (fun _ => 0)))] H := hP
  have hD : va_D A [(h0, .inr (1, [.ref q1])), (q1, .inl (g.2.2.1, 6, .inl (fun _ => 0)))] := hD
  subst hAe
  exact z_ret (w1 := fun u => [((u 0), .inr (1, [.ref (u 1)])), ((u 1), .inl (g.2.2.1, 6, .inl (fun _ => 0)))]) C hr hlk (fun k => match k with | 0 => h0 | 1 => q1 | _ => 0) rfl hP hD hS dX1_init_12
set_option maxHeartbeats 8000000 in
set_option maxRecDepth 100000 in
theorem ci_X0 (l : Launch) (g : GG) (h0 : Nat) : MC l g yX0_init (Cond.code yX0_init cX0_init 1 none :: gtbl) (rmC 2 2 12) h0 [] (.inr (0, [.null, .null, .long 0, .long 0])) (fun u => [((u 0), .inr (0, [.ref (u 1), .ref (u 2), .long 0, .long 1])), ((u 1), .inl (g.2.2.1, 6, .inl (fun _ => 0))), ((u 2), .inl (g.2.2.1, 6, .inl (fun _ => 0)))]) 2 12 := by
  refine mc_of (own := RX0) (lv := [(0, .ref h0)]) (by decide) rfl rfl (Nat.le_of_ble_eq_true rfl) rfl (fun p e s m below meth c ls C hr hlk hin hK hN hP hD hA hl => ?_)
  have hx := C.1
  have hb := C.2.1
  have hS : va_S (va_A [(h0, .inr (0, [.null, .null, .long 0, .long 0]))] s.heap.size) s.heap s.heap [] := va_S.rf
  generalize hAe : va_A [(h0, .inr (0, [.null, .null, .long 0, .long 0]))] s.heap.size = A at hD hS hA
  refine lv_aload_n hx hb dX0_init_0 rfl (lv_at hl 0 rfl) ?_
  refine W.objInit hx hb C.2.2.2.1 (C.2.2.2.2 _ mw_277) (C.2.2.2.2 _ mw_68) (C.2.2.2.2 _ mw_69) rfl (hl.1.trans C.2.2.1.symm) rfl dX0_init_1 (Nat.le_of_ble_eq_true rfl) (Nat.le_of_ble_eq_true rfl) ?_
  refine W.eq (g2 := F0 m 4 ls []) rfl ?_
  refine lv_aload_n hx hb dX0_init_4 rfl (lv_at hl 0 rfl) ?_
  refine lv_bipush (v := 6) hx hb dX0_init_5 (by decide) ?_
  refine z_newi (n := 6) (N' := 6) C hK hP hD hS hA (by decide) (by decide) (by decide) (Nat.le_of_ble_eq_true rfl) (Nat.le_of_ble_eq_true rfl) dX0_init_7 (fun q1 H hP hD hS => ?_)
  have hP : va_P g.1 clsL [(h0, .inr (0, [.null, .null, .long 0, .long 0])), (q1, .inl (g.2.2.1, 6, .inl (fun _ => 0)))] H := hP
  have hD : va_D A [(h0, .inr (0, [.null, .null, .long 0, .long 0])), (q1, .inl (g.2.2.1, 6, .inl (fun _ => 0)))] := hD
  refine W.widen (k := 1) (n := 6) (Nat.le_of_ble_eq_true rfl) (Nat.le_of_ble_eq_true rfl) ?_
  refine va_putF (D := g.1) (ci := 0) (v := .ref q1) (ty := .array .int) (C := RX0) (T := TX0) (N := 4) hx hb C.2.2.2.2 inX0 tyX0 tyX0_ok nmX0 C.2.2.2.1 hK hP hD hS 0 rfl rfl 0 (by decide) (C.2.2.2.2 _ mw_278) (fun _ h9 => h9) rfl hin rfl (by decide +kernel) rfl rfl (Nat.le_of_ble_eq_true rfl) dX0_init_9 (fun H locs hP hD hS => ?_)
  have hP : va_P g.1 clsL [(h0, .inr (0, [.ref q1, .null, .long 0, .long 0])), (q1, .inl (g.2.2.1, 6, .inl (fun _ => 0)))] H := hP
  have hD : va_D A [(h0, .inr (0, [.ref q1, .null, .long 0, .long 0])), (q1, .inl (g.2.2.1, 6, .inl (fun _ => 0)))] := hD
  refine lv_aload_n hx hb dX0_init_12 rfl (lv_at hl 0 rfl) ?_
  refine lv_bipush (v := 6) hx hb dX0_init_13 (by decide) ?_
  refine z_newi (n := 6) (N' := 6) C hK hP hD hS hA (by decide) (by decide) (by decide) (Nat.le_of_ble_eq_true rfl) (Nat.le_of_ble_eq_true rfl) dX0_init_15 (fun q2 H hP hD hS => ?_)
  have hP : va_P g.1 clsL [(h0, .inr (0, [.ref q1, .null, .long 0, .long 0])), (q1, .inl (g.2.2.1, 6, .inl (fun _ => 0))), (q2, .inl (g.2.2.1, 6, .inl (fun _ => 0)))] H := hP
  have hD : va_D A [(h0, .inr (0, [.ref q1, .null, .long 0, .long 0])), (q1, .inl (g.2.2.1, 6, .inl (fun _ => 0))), (q2, .inl (g.2.2.1, 6, .inl (fun _ => 0)))] := hD
  refine W.widen (k := 2) (n := 12) (Nat.le_of_ble_eq_true rfl) (Nat.le_of_ble_eq_true rfl) ?_
  refine va_putF (D := g.1) (ci := 0) (v := .ref q2) (ty := .array .int) (C := RX0) (T := TX0) (N := 4) hx hb C.2.2.2.2 inX0 tyX0 tyX0_ok nmX0 C.2.2.2.1 hK hP hD hS 0 rfl rfl 1 (by decide) (C.2.2.2.2 _ mw_279) (fun _ h9 => h9) rfl hin rfl (by decide +kernel) rfl rfl (Nat.le_of_ble_eq_true rfl) dX0_init_17 (fun H locs hP hD hS => ?_)
  have hP : va_P g.1 clsL [(h0, .inr (0, [.ref q1, .ref q2, .long 0, .long 0])), (q1, .inl (g.2.2.1, 6, .inl (fun _ => 0))), (q2, .inl (g.2.2.1, 6, .inl (fun _ => 0)))] H := hP
  have hD : va_D A [(h0, .inr (0, [.ref q1, .ref q2, .long 0, .long 0])), (q1, .inl (g.2.2.1, 6, .inl (fun _ => 0))), (q2, .inl (g.2.2.1, 6, .inl (fun _ => 0)))] := hD
  refine lv_aload_n hx hb dX0_init_20 rfl (lv_at hl 0 rfl) ?_
  refine lv_lconst (v := 0) hx hb dX0_init_21 (by decide) ?_
  refine va_put (D := g.1) (ci := 0) (v := .long 0) (ty := .long) (C := RX0) (T := TX0) (N := 4) hx hb C.2.2.2.2 inX0 tyX0 tyX0_ok nmX0 C.2.2.2.1 hK hP hD hS 0 rfl rfl 2 (by decide) (C.2.2.2.2 _ mw_280) (fun _ h9 => h9) rfl (by decide +kernel) rfl rfl (Nat.le_of_ble_eq_true rfl) dX0_init_22 (fun H locs hP hD hS => ?_)
  have hP : va_P g.1 clsL [(h0, .inr (0, [.ref q1, .ref q2, .long 0, .long 0])), (q1, .inl (g.2.2.1, 6, .inl (fun _ => 0))), (q2, .inl (g.2.2.1, 6, .inl (fun _ => 0)))] H := hP
  have hD : va_D A [(h0, .inr (0, [.ref q1, .ref q2, .long 0, .long 0])), (q1, .inl (g.2.2.1, 6, .inl (fun _ => 0))), (q2, .inl (g.2.2.1, 6, .inl (fun _ => 0)))] := hD
  refine lv_aload_n hx hb dX0_init_25 rfl (lv_at hl 0 rfl) ?_
  refine lv_lconst (v := 1) hx hb dX0_init_26 (by decide) ?_
  refine va_put (D := g.1) (ci := 0) (v := .long 1) (ty := .long) (C := RX0) (T := TX0) (N := 4) hx hb C.2.2.2.2 inX0 tyX0 tyX0_ok nmX0 C.2.2.2.1 hK hP hD hS 0 rfl rfl 3 (by decide) (C.2.2.2.2 _ mw_282) (fun _ h9 => h9) rfl (by decide +kernel) rfl rfl (Nat.le_of_ble_eq_true rfl) dX0_init_27 (fun H locs hP hD hS => ?_)
  have hP : va_P g.1 clsL [(h0, .inr (0, [.ref q1, .ref q2, .long 0, .long 1])), (q1, .inl (g.2.2.1, 6, .inl (fun _ => 0))), (q2, .inl (g.2.2.1, 6, .inl (fun _ => 0)))] H := hP
  have hD : va_D A [(h0, .inr (0, [.ref q1, .ref q2, .long 0, .long 1])), (q1, .inl (g.2.2.1, 6, .inl (fun _ => 0))), (q2, .inl (g.2.2.1, 6, .inl (fun _ => 0)))] := hD
  subst hAe
  exact z_ret (w1 := fun u => [((u 0), .inr (0, [.ref (u 1), .ref (u 2), .long 0, .long 1])), ((u 1), .inl (g.2.2.1, 6, .inl (fun _ => 0))), ((u 2), .inl (g.2.2.1, 6, .inl (fun _ => 0)))]) C hr hlk (fun k => match k with | 0 => h0 | 1 => q1 | 2 => q2 | _ => 0) rfl hP hD hS dX0_init_30
set_option maxHeartbeats 8000000 in
set_option maxRecDepth 100000 in
theorem ci_X3 (l : Launch) (g : GG) (h0 : Nat) : MC l g yX3_init (Cond.code yX3_init cX3_init 1 none :: gtbl) (rmC 4 16 324) h0 [] (.inr (2, [.null, .null, .null, .null, .int 0])) (fun u => (((u 0), .inr (2, [.ref (u 1), .ref (u 11), .ref (u 12), .ref (u 16), .int 0])) :: ((u 1), .inr (7, [.ref (u 2), .ref (u 9), .ref (u 10), .int 0])) :: ((u 2), .inr (4, [.ref (u 3), .ref (u 4), .ref (u 5), .ref (u 6), .ref (u 7), .ref (u 8), .int 0, .int 0])) :: ((u 3), .inl (g.2.2.1, 56, .inl (fun _ => 0))) :: ((u 4), .inl (g.2.2.1, 8, .inl (fun _ => 0))) :: ((u 5), .inl (g.2.2.1, 8, .inl (fun _ => 0))) :: ((u 6), .inl (g.2.2.1, 8, .inl (fun _ => 0))) :: ((u 7), .inl (g.2.2.1, 6, .inl (fun _ => 0))) :: ((u 8), .inl (g.2.2.1, 6, .inl (fun _ => 0))) :: ((u 9), .inl (g.2.2.1, 6, .inl (fun _ => 0))) :: ((u 10), .inl (g.2.2.1, 48, .inl (fun _ => 0))) :: ((u 11), .inl (g.2.2.1, 40, .inl (fun _ => 0))) :: ((u 12), .inl (g.2.2.2.1, 3, .inr (.inr (.inr (.inr (fun i => if i < 3 then some ((fun i => u (13 + i)) i) else none)))))) :: ((u 13), .inl (g.2.2.1, 40, .inl (fun _ => 0))) :: ((u 14), .inl (g.2.2.1, 40, .inl (fun _ => 0))) :: ((u 15), .inl (g.2.2.1, 40, .inl (fun _ => 0))) :: ((u 16), .inl (g.2.2.1, 3, .inl (fun j => if j < 3 then (-1) else 0))) :: [])) 16 324 := by
  refine mc_of (own := RX3) (lv := [(0, .ref h0)]) (by decide) rfl rfl (Nat.le_of_ble_eq_true rfl) rfl (fun p e s m below meth c ls C hr hlk hin hK hN hP hD hA hl => ?_)
  have hx := C.1
  have hb := C.2.1
  have hS : va_S (va_A [(h0, .inr (2, [.null, .null, .null, .null, .int 0]))] s.heap.size) s.heap s.heap [] := va_S.rf
  generalize hAe : va_A [(h0, .inr (2, [.null, .null, .null, .null, .int 0]))] s.heap.size = A at hD hS hA
  refine lv_aload_n hx hb dX3_init_0 rfl (lv_at hl 0 rfl) ?_
  refine W.objInit hx hb C.2.2.2.1 (C.2.2.2.2 _ mw_139) (C.2.2.2.2 _ mw_68) (C.2.2.2.2 _ mw_69) rfl (hl.1.trans C.2.2.1.symm) rfl dX3_init_1 (Nat.le_of_ble_eq_true rfl) (Nat.le_of_ble_eq_true rfl) ?_
  refine W.eq (g2 := F0 m 4 ls []) rfl ?_
  refine lv_aload_n hx hb dX3_init_4 rfl (lv_at hl 0 rfl) ?_
  refine va_new (ci := 7) (fs := [.null, .null, .null, .int 0]) (C := RX9) (T := TX9) (N := 4) hx hb C.2.2.2.2 inX9 tyX9 tyX9_ok C.2.2.2.1 (C.2.2.2.2 _ mw_140) (C.2.2.2.2 _ mw_141) (C.2.2.2.2 _ mw_52) hK hP hD hS hA rfl (fun j hj => match j, hj with | 0, _ => rfl | 1, _ => rfl | 2, _ => rfl | 3, _ => rfl | j + 4, h => absurd h (by omega)) (Nat.le_of_ble_eq_true rfl) (Nat.le_of_ble_eq_true rfl) dX3_init_5 (fun q1 H hP hD hS => ?_)
  have hP : va_P g.1 clsL [(h0, .inr (2, [.null, .null, .null, .null, .int 0])), (q1, .inr (7, [.null, .null, .null, .int 0]))] H := hP
  have hD : va_D A [(h0, .inr (2, [.null, .null, .null, .null, .int 0])), (q1, .inr (7, [.null, .null, .null, .int 0]))] := hD
  refine W.widen (k := 1) (n := 4) (Nat.le_of_ble_eq_true rfl) (Nat.le_of_ble_eq_true rfl) ?_
  refine lv_dup hx hb dX3_init_8 rfl ?_
  refine z_cN (X := [(h0, .inr (2, [.null, .null, .null, .null, .int 0]))]) (As := []) (rest := [.ref q1, .ref h0]) C hl.1 hK hN hP hD hS hA ⟨Nat.le_of_ble_eq_true rfl, Nat.le_of_ble_eq_true rfl⟩ (ci_X9 l g q1) ⟨va_cnB 0 C.2.2.2.2 (gtbl_gi mw_144) rfl rfl rfl hN.2.1 (C.2.2.2.2 _ mw_52) (by decide +kernel) ⟨Nat.le_of_ble_eq_true rfl, Nat.le_of_ble_eq_true rfl⟩, rfl, C.2.2.2.2 _ mw_143⟩ rfl rfl (Nat.le_of_ble_eq_true rfl) dX3_init_9 (fun u2 H locs hu hP2 hD2 hS => ?_)
  subst hu
  have hP : va_P g.1 clsL [(h0, .inr (2, [.null, .null, .null, .null, .int 0])), ((u2 0), .inr (7, [.ref (u2 1), .ref (u2 8), .ref (u2 9), .int 0])), ((u2 1), .inr (4, [.ref (u2 2), .ref (u2 3), .ref (u2 4), .ref (u2 5), .ref (u2 6), .ref (u2 7), .int 0, .int 0])), ((u2 2), .inl (g.2.2.1, 56, .inl (fun _ => 0))), ((u2 3), .inl (g.2.2.1, 8, .inl (fun _ => 0))), ((u2 4), .inl (g.2.2.1, 8, .inl (fun _ => 0))), ((u2 5), .inl (g.2.2.1, 8, .inl (fun _ => 0))), ((u2 6), .inl (g.2.2.1, 6, .inl (fun _ => 0))), ((u2 7), .inl (g.2.2.1, 6, .inl (fun _ => 0))), ((u2 8), .inl (g.2.2.1, 6, .inl (fun _ => 0))), ((u2 9), .inl (g.2.2.1, 48, .inl (fun _ => 0)))] H := hP2
  have hD : va_D A [(h0, .inr (2, [.null, .null, .null, .null, .int 0])), ((u2 0), .inr (7, [.ref (u2 1), .ref (u2 8), .ref (u2 9), .int 0])), ((u2 1), .inr (4, [.ref (u2 2), .ref (u2 3), .ref (u2 4), .ref (u2 5), .ref (u2 6), .ref (u2 7), .int 0, .int 0])), ((u2 2), .inl (g.2.2.1, 56, .inl (fun _ => 0))), ((u2 3), .inl (g.2.2.1, 8, .inl (fun _ => 0))), ((u2 4), .inl (g.2.2.1, 8, .inl (fun _ => 0))), ((u2 5), .inl (g.2.2.1, 8, .inl (fun _ => 0))), ((u2 6), .inl (g.2.2.1, 6, .inl (fun _ => 0))), ((u2 7), .inl (g.2.2.1, 6, .inl (fun _ => 0))), ((u2 8), .inl (g.2.2.1, 6, .inl (fun _ => 0))), ((u2 9), .inl (g.2.2.1, 48, .inl (fun _ => 0)))] := hD2
  refine W.widen (k := 10) (n := 158) (Nat.le_of_ble_eq_true rfl) (Nat.le_of_ble_eq_true rfl) ?_
  refine va_putF (D := g.1) (ci := 2) (v := .ref (u2 0)) (ty := .object "ColourCoupons$Town") (C := RX3) (T := TX3) (N := 5) hx hb C.2.2.2.2 inX3 tyX3 tyX3_ok nmX3 C.2.2.2.1 hK hP hD hS 0 rfl rfl 0 (by decide) (C.2.2.2.2 _ mw_225) (fun _ h9 => h9) rfl hin rfl (by decide +kernel) rfl rfl (Nat.le_of_ble_eq_true rfl) dX3_init_12 (fun H locs hP hD hS => ?_)
  have hP : va_P g.1 clsL [(h0, .inr (2, [.ref (u2 0), .null, .null, .null, .int 0])), ((u2 0), .inr (7, [.ref (u2 1), .ref (u2 8), .ref (u2 9), .int 0])), ((u2 1), .inr (4, [.ref (u2 2), .ref (u2 3), .ref (u2 4), .ref (u2 5), .ref (u2 6), .ref (u2 7), .int 0, .int 0])), ((u2 2), .inl (g.2.2.1, 56, .inl (fun _ => 0))), ((u2 3), .inl (g.2.2.1, 8, .inl (fun _ => 0))), ((u2 4), .inl (g.2.2.1, 8, .inl (fun _ => 0))), ((u2 5), .inl (g.2.2.1, 8, .inl (fun _ => 0))), ((u2 6), .inl (g.2.2.1, 6, .inl (fun _ => 0))), ((u2 7), .inl (g.2.2.1, 6, .inl (fun _ => 0))), ((u2 8), .inl (g.2.2.1, 6, .inl (fun _ => 0))), ((u2 9), .inl (g.2.2.1, 48, .inl (fun _ => 0)))] H := hP
  have hD : va_D A [(h0, .inr (2, [.ref (u2 0), .null, .null, .null, .int 0])), ((u2 0), .inr (7, [.ref (u2 1), .ref (u2 8), .ref (u2 9), .int 0])), ((u2 1), .inr (4, [.ref (u2 2), .ref (u2 3), .ref (u2 4), .ref (u2 5), .ref (u2 6), .ref (u2 7), .int 0, .int 0])), ((u2 2), .inl (g.2.2.1, 56, .inl (fun _ => 0))), ((u2 3), .inl (g.2.2.1, 8, .inl (fun _ => 0))), ((u2 4), .inl (g.2.2.1, 8, .inl (fun _ => 0))), ((u2 5), .inl (g.2.2.1, 8, .inl (fun _ => 0))), ((u2 6), .inl (g.2.2.1, 6, .inl (fun _ => 0))), ((u2 7), .inl (g.2.2.1, 6, .inl (fun _ => 0))), ((u2 8), .inl (g.2.2.1, 6, .inl (fun _ => 0))), ((u2 9), .inl (g.2.2.1, 48, .inl (fun _ => 0)))] := hD
  refine lv_aload_n hx hb dX3_init_15 rfl (lv_at hl 0 rfl) ?_
  refine lv_bipush (v := 40) hx hb dX3_init_16 (by decide) ?_
  refine z_newi (n := 40) (N' := 40) C hK hP hD hS hA (by decide) (by decide) (by decide) (Nat.le_of_ble_eq_true rfl) (Nat.le_of_ble_eq_true rfl) dX3_init_18 (fun q3 H hP hD hS => ?_)
  have hP : va_P g.1 clsL [(h0, .inr (2, [.ref (u2 0), .null, .null, .null, .int 0])), ((u2 0), .inr (7, [.ref (u2 1), .ref (u2 8), .ref (u2 9), .int 0])), ((u2 1), .inr (4, [.ref (u2 2), .ref (u2 3), .ref (u2 4), .ref (u2 5), .ref (u2 6), .ref (u2 7), .int 0, .int 0])), ((u2 2), .inl (g.2.2.1, 56, .inl (fun _ => 0))), ((u2 3), .inl (g.2.2.1, 8, .inl (fun _ => 0))), ((u2 4), .inl (g.2.2.1, 8, .inl (fun _ => 0))), ((u2 5), .inl (g.2.2.1, 8, .inl (fun _ => 0))), ((u2 6), .inl (g.2.2.1, 6, .inl (fun _ => 0))), ((u2 7), .inl (g.2.2.1, 6, .inl (fun _ => 0))), ((u2 8), .inl (g.2.2.1, 6, .inl (fun _ => 0))), ((u2 9), .inl (g.2.2.1, 48, .inl (fun _ => 0))), (q3, .inl (g.2.2.1, 40, .inl (fun _ => 0)))] H := hP
  have hD : va_D A [(h0, .inr (2, [.ref (u2 0), .null, .null, .null, .int 0])), ((u2 0), .inr (7, [.ref (u2 1), .ref (u2 8), .ref (u2 9), .int 0])), ((u2 1), .inr (4, [.ref (u2 2), .ref (u2 3), .ref (u2 4), .ref (u2 5), .ref (u2 6), .ref (u2 7), .int 0, .int 0])), ((u2 2), .inl (g.2.2.1, 56, .inl (fun _ => 0))), ((u2 3), .inl (g.2.2.1, 8, .inl (fun _ => 0))), ((u2 4), .inl (g.2.2.1, 8, .inl (fun _ => 0))), ((u2 5), .inl (g.2.2.1, 8, .inl (fun _ => 0))), ((u2 6), .inl (g.2.2.1, 6, .inl (fun _ => 0))), ((u2 7), .inl (g.2.2.1, 6, .inl (fun _ => 0))), ((u2 8), .inl (g.2.2.1, 6, .inl (fun _ => 0))), ((u2 9), .inl (g.2.2.1, 48, .inl (fun _ => 0))), (q3, .inl (g.2.2.1, 40, .inl (fun _ => 0)))] := hD
  refine W.widen (k := 11) (n := 198) (Nat.le_of_ble_eq_true rfl) (Nat.le_of_ble_eq_true rfl) ?_
  refine va_putF (D := g.1) (ci := 2) (v := .ref q3) (ty := .array .int) (C := RX3) (T := TX3) (N := 5) hx hb C.2.2.2.2 inX3 tyX3 tyX3_ok nmX3 C.2.2.2.1 hK hP hD hS 0 rfl rfl 1 (by decide) (C.2.2.2.2 _ mw_227) (fun _ h9 => h9) rfl hin rfl (by decide +kernel) rfl rfl (Nat.le_of_ble_eq_true rfl) dX3_init_20 (fun H locs hP hD hS => ?_)
  have hP : va_P g.1 clsL [(h0, .inr (2, [.ref (u2 0), .ref q3, .null, .null, .int 0])), ((u2 0), .inr (7, [.ref (u2 1), .ref (u2 8), .ref (u2 9), .int 0])), ((u2 1), .inr (4, [.ref (u2 2), .ref (u2 3), .ref (u2 4), .ref (u2 5), .ref (u2 6), .ref (u2 7), .int 0, .int 0])), ((u2 2), .inl (g.2.2.1, 56, .inl (fun _ => 0))), ((u2 3), .inl (g.2.2.1, 8, .inl (fun _ => 0))), ((u2 4), .inl (g.2.2.1, 8, .inl (fun _ => 0))), ((u2 5), .inl (g.2.2.1, 8, .inl (fun _ => 0))), ((u2 6), .inl (g.2.2.1, 6, .inl (fun _ => 0))), ((u2 7), .inl (g.2.2.1, 6, .inl (fun _ => 0))), ((u2 8), .inl (g.2.2.1, 6, .inl (fun _ => 0))), ((u2 9), .inl (g.2.2.1, 48, .inl (fun _ => 0))), (q3, .inl (g.2.2.1, 40, .inl (fun _ => 0)))] H := hP
  have hD : va_D A [(h0, .inr (2, [.ref (u2 0), .ref q3, .null, .null, .int 0])), ((u2 0), .inr (7, [.ref (u2 1), .ref (u2 8), .ref (u2 9), .int 0])), ((u2 1), .inr (4, [.ref (u2 2), .ref (u2 3), .ref (u2 4), .ref (u2 5), .ref (u2 6), .ref (u2 7), .int 0, .int 0])), ((u2 2), .inl (g.2.2.1, 56, .inl (fun _ => 0))), ((u2 3), .inl (g.2.2.1, 8, .inl (fun _ => 0))), ((u2 4), .inl (g.2.2.1, 8, .inl (fun _ => 0))), ((u2 5), .inl (g.2.2.1, 8, .inl (fun _ => 0))), ((u2 6), .inl (g.2.2.1, 6, .inl (fun _ => 0))), ((u2 7), .inl (g.2.2.1, 6, .inl (fun _ => 0))), ((u2 8), .inl (g.2.2.1, 6, .inl (fun _ => 0))), ((u2 9), .inl (g.2.2.1, 48, .inl (fun _ => 0))), (q3, .inl (g.2.2.1, 40, .inl (fun _ => 0)))] := hD
  refine lv_aload_n hx hb dX3_init_23 rfl (lv_at hl 0 rfl) ?_
  refine lv_iconst (v := 3) hx hb dX3_init_24 (by decide) ?_
  refine lv_bipush (v := 40) hx hb dX3_init_25 (by decide) ?_
  refine z_mna (n := 3) (k := 40) (N' := 3) (K' := 40) C mw_223 hN.2.2.2.2.2.2 hK hP hD hS hA (by decide) (by decide) (by decide) (by decide) (by decide) (by decide) (Nat.le_of_ble_eq_true rfl) (Nat.le_of_ble_eq_true rfl) dX3_init_27 (fun q4 r5 H hP hD hS => ?_)
  have hP : va_P g.1 clsL [(h0, .inr (2, [.ref (u2 0), .ref q3, .null, .null, .int 0])), ((u2 0), .inr (7, [.ref (u2 1), .ref (u2 8), .ref (u2 9), .int 0])), ((u2 1), .inr (4, [.ref (u2 2), .ref (u2 3), .ref (u2 4), .ref (u2 5), .ref (u2 6), .ref (u2 7), .int 0, .int 0])), ((u2 2), .inl (g.2.2.1, 56, .inl (fun _ => 0))), ((u2 3), .inl (g.2.2.1, 8, .inl (fun _ => 0))), ((u2 4), .inl (g.2.2.1, 8, .inl (fun _ => 0))), ((u2 5), .inl (g.2.2.1, 8, .inl (fun _ => 0))), ((u2 6), .inl (g.2.2.1, 6, .inl (fun _ => 0))), ((u2 7), .inl (g.2.2.1, 6, .inl (fun _ => 0))), ((u2 8), .inl (g.2.2.1, 6, .inl (fun _ => 0))), ((u2 9), .inl (g.2.2.1, 48, .inl (fun _ => 0))), (q3, .inl (g.2.2.1, 40, .inl (fun _ => 0))), (q4, .inl (g.2.2.2.1, 3, .inr (.inr (.inr (.inr (fun i => if i < 3 then some (r5 i) else none)))))), ((r5 0), .inl (g.2.2.1, 40, .inl (fun _ => 0))), ((r5 1), .inl (g.2.2.1, 40, .inl (fun _ => 0))), ((r5 2), .inl (g.2.2.1, 40, .inl (fun _ => 0)))] H := hP
  have hD : va_D A [(h0, .inr (2, [.ref (u2 0), .ref q3, .null, .null, .int 0])), ((u2 0), .inr (7, [.ref (u2 1), .ref (u2 8), .ref (u2 9), .int 0])), ((u2 1), .inr (4, [.ref (u2 2), .ref (u2 3), .ref (u2 4), .ref (u2 5), .ref (u2 6), .ref (u2 7), .int 0, .int 0])), ((u2 2), .inl (g.2.2.1, 56, .inl (fun _ => 0))), ((u2 3), .inl (g.2.2.1, 8, .inl (fun _ => 0))), ((u2 4), .inl (g.2.2.1, 8, .inl (fun _ => 0))), ((u2 5), .inl (g.2.2.1, 8, .inl (fun _ => 0))), ((u2 6), .inl (g.2.2.1, 6, .inl (fun _ => 0))), ((u2 7), .inl (g.2.2.1, 6, .inl (fun _ => 0))), ((u2 8), .inl (g.2.2.1, 6, .inl (fun _ => 0))), ((u2 9), .inl (g.2.2.1, 48, .inl (fun _ => 0))), (q3, .inl (g.2.2.1, 40, .inl (fun _ => 0))), (q4, .inl (g.2.2.2.1, 3, .inr (.inr (.inr (.inr (fun i => if i < 3 then some (r5 i) else none)))))), ((r5 0), .inl (g.2.2.1, 40, .inl (fun _ => 0))), ((r5 1), .inl (g.2.2.1, 40, .inl (fun _ => 0))), ((r5 2), .inl (g.2.2.1, 40, .inl (fun _ => 0)))] := hD
  refine W.widen (k := 15) (n := 321) (Nat.le_of_ble_eq_true rfl) (Nat.le_of_ble_eq_true rfl) ?_
  refine va_putF (D := g.1) (ci := 2) (v := .ref q4) (ty := .array (.array .int)) (C := RX3) (T := TX3) (N := 5) hx hb C.2.2.2.2 inX3 tyX3 tyX3_ok nmX3 C.2.2.2.1 hK hP hD hS 0 rfl rfl 2 (by decide) (C.2.2.2.2 _ mw_228) (fun _ h9 => h9) rfl hin rfl (by decide +kernel) rfl rfl (Nat.le_of_ble_eq_true rfl) dX3_init_31 (fun H locs hP hD hS => ?_)
  have hP : va_P g.1 clsL [(h0, .inr (2, [.ref (u2 0), .ref q3, .ref q4, .null, .int 0])), ((u2 0), .inr (7, [.ref (u2 1), .ref (u2 8), .ref (u2 9), .int 0])), ((u2 1), .inr (4, [.ref (u2 2), .ref (u2 3), .ref (u2 4), .ref (u2 5), .ref (u2 6), .ref (u2 7), .int 0, .int 0])), ((u2 2), .inl (g.2.2.1, 56, .inl (fun _ => 0))), ((u2 3), .inl (g.2.2.1, 8, .inl (fun _ => 0))), ((u2 4), .inl (g.2.2.1, 8, .inl (fun _ => 0))), ((u2 5), .inl (g.2.2.1, 8, .inl (fun _ => 0))), ((u2 6), .inl (g.2.2.1, 6, .inl (fun _ => 0))), ((u2 7), .inl (g.2.2.1, 6, .inl (fun _ => 0))), ((u2 8), .inl (g.2.2.1, 6, .inl (fun _ => 0))), ((u2 9), .inl (g.2.2.1, 48, .inl (fun _ => 0))), (q3, .inl (g.2.2.1, 40, .inl (fun _ => 0))), (q4, .inl (g.2.2.2.1, 3, .inr (.inr (.inr (.inr (fun i => if i < 3 then some (r5 i) else none)))))), ((r5 0), .inl (g.2.2.1, 40, .inl (fun _ => 0))), ((r5 1), .inl (g.2.2.1, 40, .inl (fun _ => 0))), ((r5 2), .inl (g.2.2.1, 40, .inl (fun _ => 0)))] H := hP
  have hD : va_D A [(h0, .inr (2, [.ref (u2 0), .ref q3, .ref q4, .null, .int 0])), ((u2 0), .inr (7, [.ref (u2 1), .ref (u2 8), .ref (u2 9), .int 0])), ((u2 1), .inr (4, [.ref (u2 2), .ref (u2 3), .ref (u2 4), .ref (u2 5), .ref (u2 6), .ref (u2 7), .int 0, .int 0])), ((u2 2), .inl (g.2.2.1, 56, .inl (fun _ => 0))), ((u2 3), .inl (g.2.2.1, 8, .inl (fun _ => 0))), ((u2 4), .inl (g.2.2.1, 8, .inl (fun _ => 0))), ((u2 5), .inl (g.2.2.1, 8, .inl (fun _ => 0))), ((u2 6), .inl (g.2.2.1, 6, .inl (fun _ => 0))), ((u2 7), .inl (g.2.2.1, 6, .inl (fun _ => 0))), ((u2 8), .inl (g.2.2.1, 6, .inl (fun _ => 0))), ((u2 9), .inl (g.2.2.1, 48, .inl (fun _ => 0))), (q3, .inl (g.2.2.1, 40, .inl (fun _ => 0))), (q4, .inl (g.2.2.2.1, 3, .inr (.inr (.inr (.inr (fun i => if i < 3 then some (r5 i) else none)))))), ((r5 0), .inl (g.2.2.1, 40, .inl (fun _ => 0))), ((r5 1), .inl (g.2.2.1, 40, .inl (fun _ => 0))), ((r5 2), .inl (g.2.2.1, 40, .inl (fun _ => 0)))] := hD
  refine lv_aload_n hx hb dX3_init_34 rfl (lv_at hl 0 rfl) ?_
  refine lv_iconst (v := 3) hx hb dX3_init_35 (by decide) ?_
  refine z_newi (n := 3) (N' := 3) C hK hP hD hS hA (by decide) (by decide) (by decide) (Nat.le_of_ble_eq_true rfl) (Nat.le_of_ble_eq_true rfl) dX3_init_36 (fun q6 H hP hD hS => ?_)
  have hP : va_P g.1 clsL ((h0, .inr (2, [.ref (u2 0), .ref q3, .ref q4, .null, .int 0])) :: ((u2 0), .inr (7, [.ref (u2 1), .ref (u2 8), .ref (u2 9), .int 0])) :: ((u2 1), .inr (4, [.ref (u2 2), .ref (u2 3), .ref (u2 4), .ref (u2 5), .ref (u2 6), .ref (u2 7), .int 0, .int 0])) :: ((u2 2), .inl (g.2.2.1, 56, .inl (fun _ => 0))) :: ((u2 3), .inl (g.2.2.1, 8, .inl (fun _ => 0))) :: ((u2 4), .inl (g.2.2.1, 8, .inl (fun _ => 0))) :: ((u2 5), .inl (g.2.2.1, 8, .inl (fun _ => 0))) :: ((u2 6), .inl (g.2.2.1, 6, .inl (fun _ => 0))) :: ((u2 7), .inl (g.2.2.1, 6, .inl (fun _ => 0))) :: ((u2 8), .inl (g.2.2.1, 6, .inl (fun _ => 0))) :: ((u2 9), .inl (g.2.2.1, 48, .inl (fun _ => 0))) :: (q3, .inl (g.2.2.1, 40, .inl (fun _ => 0))) :: (q4, .inl (g.2.2.2.1, 3, .inr (.inr (.inr (.inr (fun i => if i < 3 then some (r5 i) else none)))))) :: ((r5 0), .inl (g.2.2.1, 40, .inl (fun _ => 0))) :: ((r5 1), .inl (g.2.2.1, 40, .inl (fun _ => 0))) :: ((r5 2), .inl (g.2.2.1, 40, .inl (fun _ => 0))) :: (q6, .inl (g.2.2.1, 3, .inl (fun _ => 0))) :: []) H := hP
  have hD : va_D A ((h0, .inr (2, [.ref (u2 0), .ref q3, .ref q4, .null, .int 0])) :: ((u2 0), .inr (7, [.ref (u2 1), .ref (u2 8), .ref (u2 9), .int 0])) :: ((u2 1), .inr (4, [.ref (u2 2), .ref (u2 3), .ref (u2 4), .ref (u2 5), .ref (u2 6), .ref (u2 7), .int 0, .int 0])) :: ((u2 2), .inl (g.2.2.1, 56, .inl (fun _ => 0))) :: ((u2 3), .inl (g.2.2.1, 8, .inl (fun _ => 0))) :: ((u2 4), .inl (g.2.2.1, 8, .inl (fun _ => 0))) :: ((u2 5), .inl (g.2.2.1, 8, .inl (fun _ => 0))) :: ((u2 6), .inl (g.2.2.1, 6, .inl (fun _ => 0))) :: ((u2 7), .inl (g.2.2.1, 6, .inl (fun _ => 0))) :: ((u2 8), .inl (g.2.2.1, 6, .inl (fun _ => 0))) :: ((u2 9), .inl (g.2.2.1, 48, .inl (fun _ => 0))) :: (q3, .inl (g.2.2.1, 40, .inl (fun _ => 0))) :: (q4, .inl (g.2.2.2.1, 3, .inr (.inr (.inr (.inr (fun i => if i < 3 then some (r5 i) else none)))))) :: ((r5 0), .inl (g.2.2.1, 40, .inl (fun _ => 0))) :: ((r5 1), .inl (g.2.2.1, 40, .inl (fun _ => 0))) :: ((r5 2), .inl (g.2.2.1, 40, .inl (fun _ => 0))) :: (q6, .inl (g.2.2.1, 3, .inl (fun _ => 0))) :: []) := hD
  refine W.widen (k := 16) (n := 324) (Nat.le_of_ble_eq_true rfl) (Nat.le_of_ble_eq_true rfl) ?_
  refine va_putF (D := g.1) (ci := 2) (v := .ref q6) (ty := .array .int) (C := RX3) (T := TX3) (N := 5) hx hb C.2.2.2.2 inX3 tyX3 tyX3_ok nmX3 C.2.2.2.1 hK hP hD hS 0 rfl rfl 3 (by decide) (C.2.2.2.2 _ mw_229) (fun _ h9 => h9) rfl hin rfl (by decide +kernel) rfl rfl (Nat.le_of_ble_eq_true rfl) dX3_init_38 (fun H locs hP hD hS => ?_)
  have hP : va_P g.1 clsL ((h0, .inr (2, [.ref (u2 0), .ref q3, .ref q4, .ref q6, .int 0])) :: ((u2 0), .inr (7, [.ref (u2 1), .ref (u2 8), .ref (u2 9), .int 0])) :: ((u2 1), .inr (4, [.ref (u2 2), .ref (u2 3), .ref (u2 4), .ref (u2 5), .ref (u2 6), .ref (u2 7), .int 0, .int 0])) :: ((u2 2), .inl (g.2.2.1, 56, .inl (fun _ => 0))) :: ((u2 3), .inl (g.2.2.1, 8, .inl (fun _ => 0))) :: ((u2 4), .inl (g.2.2.1, 8, .inl (fun _ => 0))) :: ((u2 5), .inl (g.2.2.1, 8, .inl (fun _ => 0))) :: ((u2 6), .inl (g.2.2.1, 6, .inl (fun _ => 0))) :: ((u2 7), .inl (g.2.2.1, 6, .inl (fun _ => 0))) :: ((u2 8), .inl (g.2.2.1, 6, .inl (fun _ => 0))) :: ((u2 9), .inl (g.2.2.1, 48, .inl (fun _ => 0))) :: (q3, .inl (g.2.2.1, 40, .inl (fun _ => 0))) :: (q4, .inl (g.2.2.2.1, 3, .inr (.inr (.inr (.inr (fun i => if i < 3 then some (r5 i) else none)))))) :: ((r5 0), .inl (g.2.2.1, 40, .inl (fun _ => 0))) :: ((r5 1), .inl (g.2.2.1, 40, .inl (fun _ => 0))) :: ((r5 2), .inl (g.2.2.1, 40, .inl (fun _ => 0))) :: (q6, .inl (g.2.2.1, 3, .inl (fun _ => 0))) :: []) H := hP
  have hD : va_D A ((h0, .inr (2, [.ref (u2 0), .ref q3, .ref q4, .ref q6, .int 0])) :: ((u2 0), .inr (7, [.ref (u2 1), .ref (u2 8), .ref (u2 9), .int 0])) :: ((u2 1), .inr (4, [.ref (u2 2), .ref (u2 3), .ref (u2 4), .ref (u2 5), .ref (u2 6), .ref (u2 7), .int 0, .int 0])) :: ((u2 2), .inl (g.2.2.1, 56, .inl (fun _ => 0))) :: ((u2 3), .inl (g.2.2.1, 8, .inl (fun _ => 0))) :: ((u2 4), .inl (g.2.2.1, 8, .inl (fun _ => 0))) :: ((u2 5), .inl (g.2.2.1, 8, .inl (fun _ => 0))) :: ((u2 6), .inl (g.2.2.1, 6, .inl (fun _ => 0))) :: ((u2 7), .inl (g.2.2.1, 6, .inl (fun _ => 0))) :: ((u2 8), .inl (g.2.2.1, 6, .inl (fun _ => 0))) :: ((u2 9), .inl (g.2.2.1, 48, .inl (fun _ => 0))) :: (q3, .inl (g.2.2.1, 40, .inl (fun _ => 0))) :: (q4, .inl (g.2.2.2.1, 3, .inr (.inr (.inr (.inr (fun i => if i < 3 then some (r5 i) else none)))))) :: ((r5 0), .inl (g.2.2.1, 40, .inl (fun _ => 0))) :: ((r5 1), .inl (g.2.2.1, 40, .inl (fun _ => 0))) :: ((r5 2), .inl (g.2.2.1, 40, .inl (fun _ => 0))) :: (q6, .inl (g.2.2.1, 3, .inl (fun _ => 0))) :: []) := hD
  refine lv_aload_n hx hb dX3_init_41 rfl (lv_at hl 0 rfl) ?_
  refine va_get (D := g.1) (ci := 2) (v := .ref q6) (C := RX3) (T := TX3) (N := 5) hx hb C.2.2.2.2 inX3 C.2.2.2.1 hK hP 0 rfl rfl 3 (by decide) (C.2.2.2.2 _ mw_229) (fun _ h9 => h9) rfl dX3_init_42 ?_
  refine lv_iconst (v := (-1)) hx hb dX3_init_45 (by decide) ?_
  refine z_fill (nn := 3) C hl.1 hK hP hD hS hA ⟨Nat.le_of_ble_eq_true rfl, Nat.le_of_ble_eq_true rfl⟩ (cw_X3_28 C ⟨Nat.le_of_ble_eq_true rfl, Nat.le_of_ble_eq_true rfl⟩) 16 rfl (by decide) (by decide) (Nat.le_of_ble_eq_true rfl) dX3_init_46 (fun H locs hP hD hS => ?_)
  have hP : va_P g.1 clsL ((h0, .inr (2, [.ref (u2 0), .ref q3, .ref q4, .ref q6, .int 0])) :: ((u2 0), .inr (7, [.ref (u2 1), .ref (u2 8), .ref (u2 9), .int 0])) :: ((u2 1), .inr (4, [.ref (u2 2), .ref (u2 3), .ref (u2 4), .ref (u2 5), .ref (u2 6), .ref (u2 7), .int 0, .int 0])) :: ((u2 2), .inl (g.2.2.1, 56, .inl (fun _ => 0))) :: ((u2 3), .inl (g.2.2.1, 8, .inl (fun _ => 0))) :: ((u2 4), .inl (g.2.2.1, 8, .inl (fun _ => 0))) :: ((u2 5), .inl (g.2.2.1, 8, .inl (fun _ => 0))) :: ((u2 6), .inl (g.2.2.1, 6, .inl (fun _ => 0))) :: ((u2 7), .inl (g.2.2.1, 6, .inl (fun _ => 0))) :: ((u2 8), .inl (g.2.2.1, 6, .inl (fun _ => 0))) :: ((u2 9), .inl (g.2.2.1, 48, .inl (fun _ => 0))) :: (q3, .inl (g.2.2.1, 40, .inl (fun _ => 0))) :: (q4, .inl (g.2.2.2.1, 3, .inr (.inr (.inr (.inr (fun i => if i < 3 then some (r5 i) else none)))))) :: ((r5 0), .inl (g.2.2.1, 40, .inl (fun _ => 0))) :: ((r5 1), .inl (g.2.2.1, 40, .inl (fun _ => 0))) :: ((r5 2), .inl (g.2.2.1, 40, .inl (fun _ => 0))) :: (q6, .inl (g.2.2.1, 3, .inl (fun j => if j < 3 then (-1) else 0))) :: []) H := hP
  have hD : va_D A ((h0, .inr (2, [.ref (u2 0), .ref q3, .ref q4, .ref q6, .int 0])) :: ((u2 0), .inr (7, [.ref (u2 1), .ref (u2 8), .ref (u2 9), .int 0])) :: ((u2 1), .inr (4, [.ref (u2 2), .ref (u2 3), .ref (u2 4), .ref (u2 5), .ref (u2 6), .ref (u2 7), .int 0, .int 0])) :: ((u2 2), .inl (g.2.2.1, 56, .inl (fun _ => 0))) :: ((u2 3), .inl (g.2.2.1, 8, .inl (fun _ => 0))) :: ((u2 4), .inl (g.2.2.1, 8, .inl (fun _ => 0))) :: ((u2 5), .inl (g.2.2.1, 8, .inl (fun _ => 0))) :: ((u2 6), .inl (g.2.2.1, 6, .inl (fun _ => 0))) :: ((u2 7), .inl (g.2.2.1, 6, .inl (fun _ => 0))) :: ((u2 8), .inl (g.2.2.1, 6, .inl (fun _ => 0))) :: ((u2 9), .inl (g.2.2.1, 48, .inl (fun _ => 0))) :: (q3, .inl (g.2.2.1, 40, .inl (fun _ => 0))) :: (q4, .inl (g.2.2.2.1, 3, .inr (.inr (.inr (.inr (fun i => if i < 3 then some (r5 i) else none)))))) :: ((r5 0), .inl (g.2.2.1, 40, .inl (fun _ => 0))) :: ((r5 1), .inl (g.2.2.1, 40, .inl (fun _ => 0))) :: ((r5 2), .inl (g.2.2.1, 40, .inl (fun _ => 0))) :: (q6, .inl (g.2.2.1, 3, .inl (fun j => if j < 3 then (-1) else 0))) :: []) := hD
  subst hAe
  have hg : (fun i : Nat => if i < 3 then some (r5 i) else none) = (fun i : Nat => if i < 3 then some ((fun k => match k with | 0 => h0 | 1 => (u2 0) | 2 => (u2 1) | 3 => (u2 2) | 4 => (u2 3) | 5 => (u2 4) | 6 => (u2 5) | 7 => (u2 6) | 8 => (u2 7) | 9 => (u2 8) | 10 => (u2 9) | 11 => q3 | 12 => q4 | 13 => (r5 0) | 14 => (r5 1) | 15 => (r5 2) | 16 => q6 | _ => 0) (13 + i)) else none) := by
    funext i
    match i with
    | 0 => rfl
    | 1 => rfl
    | 2 => rfl
    | i + 3 => rw [if_neg (by omega), if_neg (by omega)]
  rw [hg] at hP hD
  exact z_ret (w1 := fun u => (((u 0), .inr (2, [.ref (u 1), .ref (u 11), .ref (u 12), .ref (u 16), .int 0])) :: ((u 1), .inr (7, [.ref (u 2), .ref (u 9), .ref (u 10), .int 0])) :: ((u 2), .inr (4, [.ref (u 3), .ref (u 4), .ref (u 5), .ref (u 6), .ref (u 7), .ref (u 8), .int 0, .int 0])) :: ((u 3), .inl (g.2.2.1, 56, .inl (fun _ => 0))) :: ((u 4), .inl (g.2.2.1, 8, .inl (fun _ => 0))) :: ((u 5), .inl (g.2.2.1, 8, .inl (fun _ => 0))) :: ((u 6), .inl (g.2.2.1, 8, .inl (fun _ => 0))) :: ((u 7), .inl (g.2.2.1, 6, .inl (fun _ => 0))) :: ((u 8), .inl (g.2.2.1, 6, .inl (fun _ => 0))) :: ((u 9), .inl (g.2.2.1, 6, .inl (fun _ => 0))) :: ((u 10), .inl (g.2.2.1, 48, .inl (fun _ => 0))) :: ((u 11), .inl (g.2.2.1, 40, .inl (fun _ => 0))) :: ((u 12), .inl (g.2.2.2.1, 3, .inr (.inr (.inr (.inr (fun i => if i < 3 then some ((fun i => u (13 + i)) i) else none)))))) :: ((u 13), .inl (g.2.2.1, 40, .inl (fun _ => 0))) :: ((u 14), .inl (g.2.2.1, 40, .inl (fun _ => 0))) :: ((u 15), .inl (g.2.2.1, 40, .inl (fun _ => 0))) :: ((u 16), .inl (g.2.2.1, 3, .inl (fun j => if j < 3 then (-1) else 0))) :: [])) C hr hlk (fun k => match k with | 0 => h0 | 1 => (u2 0) | 2 => (u2 1) | 3 => (u2 2) | 4 => (u2 3) | 5 => (u2 4) | 6 => (u2 5) | 7 => (u2 6) | 8 => (u2 7) | 9 => (u2 8) | 10 => (u2 9) | 11 => q3 | 12 => q4 | 13 => (r5 0) | 14 => (r5 1) | 15 => (r5 2) | 16 => q6 | _ => 0) rfl hP hD hS dX3_init_49
set_option maxHeartbeats 8000000 in
set_option maxRecDepth 100000 in
theorem ci_X7a (l : Launch) (g : GG) (h0 : Nat) : MC l g yX7_init (Cond.code yX7_init cX7_init 4 none :: gtbl) (rmC 2 8 252) h0 [.int 6, .int 40] (.inr (5, [.null, .null])) (fun u => [((u 0), .inr (5, [.ref (u 1), .ref (u 8)])), ((u 1), .inl (g.2.2.2.1, 6, .inr (.inr (.inr (.inr (fun i => if i < 6 then some ((fun i => u (2 + i)) i) else none)))))), ((u 2), .inl (g.2.2.1, 40, .inl (fun _ => 0))), ((u 3), .inl (g.2.2.1, 40, .inl (fun _ => 0))), ((u 4), .inl (g.2.2.1, 40, .inl (fun _ => 0))), ((u 5), .inl (g.2.2.1, 40, .inl (fun _ => 0))), ((u 6), .inl (g.2.2.1, 40, .inl (fun _ => 0))), ((u 7), .inl (g.2.2.1, 40, .inl (fun _ => 0))), ((u 8), .inl (g.2.2.1, 6, .inl (fun j => if j < 6 then (-1) else 0)))]) 8 252 := by
  refine mc_of (own := RX7) (lv := [(0, .ref h0), (1, .int 6), (2, .int 40)]) (by decide) rfl rfl (Nat.le_of_ble_eq_true rfl) rfl (fun p e s m below meth c ls C hr hlk hin hK hN hP hD hA hl => ?_)
  have hx := C.1
  have hb := C.2.1
  have hS : va_S (va_A [(h0, .inr (5, [.null, .null]))] s.heap.size) s.heap s.heap [] := va_S.rf
  generalize hAe : va_A [(h0, .inr (5, [.null, .null]))] s.heap.size = A at hD hS hA
  refine lv_aload_n hx hb dX7_init_0 rfl (lv_at hl 0 rfl) ?_
  refine W.objInit hx hb C.2.2.2.1 (C.2.2.2.2 _ mw_75) (C.2.2.2.2 _ mw_68) (C.2.2.2.2 _ mw_69) rfl (hl.1.trans C.2.2.1.symm) rfl dX7_init_1 (Nat.le_of_ble_eq_true rfl) (Nat.le_of_ble_eq_true rfl) ?_
  refine W.eq (g2 := F0 m 4 ls []) rfl ?_
  refine lv_iconst (v := 0) hx hb dX7_init_4 (by decide) ?_
  refine lv_iload_n hx hb dX7_init_5 rfl (lv_at hl 1 rfl) ?_
  refine va_mmax hx hb (C.2.2.1.trans hl.1.symm) C.2.2.2.1 (C.2.2.2.2 _ mw_76) (C.2.2.2.2 _ mw_77) (C.2.2.2.2 _ mw_48) (C.2.2.2.2 _ mw_78) (Nat.le_of_ble_eq_true rfl) (Nat.le_of_ble_eq_true rfl) (Nat.le_of_ble_eq_true rfl) (Nat.le_of_ble_eq_true rfl) dX7_init_6 ?_
  refine W.eq (g2 := F0 m 9 ls [.int 6]) (congrArg (fun z : Int32 => F0 m 9 ls [.int z]) (by decide)) ?_
  refine lv_istore_n (lv' := [(3, .int 6), (0, .ref h0), (1, .int 6), (2, .int 40)]) hx hb dX7_init_9 rfl hl (by decide) rfl (fun ls hl => ?_)
  refine lv_aload_n hx hb dX7_init_10 rfl (lv_at hl 1 rfl) ?_
  refine lv_iload_n hx hb dX7_init_11 rfl (lv_at hl 0 rfl) ?_
  refine lv_iconst (v := 0) hx hb dX7_init_12 (by decide) ?_
  refine lv_iload_n hx hb dX7_init_13 rfl (lv_at hl 3 rfl) ?_
  refine va_mmax hx hb (C.2.2.1.trans hl.1.symm) C.2.2.2.1 (C.2.2.2.2 _ mw_76) (C.2.2.2.2 _ mw_77) (C.2.2.2.2 _ mw_48) (C.2.2.2.2 _ mw_78) (Nat.le_of_ble_eq_true rfl) (Nat.le_of_ble_eq_true rfl) (Nat.le_of_ble_eq_true rfl) (Nat.le_of_ble_eq_true rfl) dX7_init_14 ?_
  refine W.eq (g2 := F0 m 17 ls [.int 40, .int 6, .ref h0]) (congrArg (fun z : Int32 => F0 m 17 ls [.int z, .int 6, .ref h0]) (by decide)) ?_
  refine z_mna (n := 6) (k := 40) (N' := 6) (K' := 40) C mw_79 hN.2.2.2.2.2.2 hK hP hD hS hA (by decide) (by decide) (by decide) (by decide) (by decide) (by decide) (Nat.le_of_ble_eq_true rfl) (Nat.le_of_ble_eq_true rfl) dX7_init_17 (fun q1 r2 H hP hD hS => ?_)
  have hP : va_P g.1 clsL [(h0, .inr (5, [.null, .null])), (q1, .inl (g.2.2.2.1, 6, .inr (.inr (.inr (.inr (fun i => if i < 6 then some (r2 i) else none)))))), ((r2 0), .inl (g.2.2.1, 40, .inl (fun _ => 0))), ((r2 1), .inl (g.2.2.1, 40, .inl (fun _ => 0))), ((r2 2), .inl (g.2.2.1, 40, .inl (fun _ => 0))), ((r2 3), .inl (g.2.2.1, 40, .inl (fun _ => 0))), ((r2 4), .inl (g.2.2.1, 40, .inl (fun _ => 0))), ((r2 5), .inl (g.2.2.1, 40, .inl (fun _ => 0)))] H := hP
  have hD : va_D A [(h0, .inr (5, [.null, .null])), (q1, .inl (g.2.2.2.1, 6, .inr (.inr (.inr (.inr (fun i => if i < 6 then some (r2 i) else none)))))), ((r2 0), .inl (g.2.2.1, 40, .inl (fun _ => 0))), ((r2 1), .inl (g.2.2.1, 40, .inl (fun _ => 0))), ((r2 2), .inl (g.2.2.1, 40, .inl (fun _ => 0))), ((r2 3), .inl (g.2.2.1, 40, .inl (fun _ => 0))), ((r2 4), .inl (g.2.2.1, 40, .inl (fun _ => 0))), ((r2 5), .inl (g.2.2.1, 40, .inl (fun _ => 0)))] := hD
  refine W.widen (k := 7) (n := 246) (Nat.le_of_ble_eq_true rfl) (Nat.le_of_ble_eq_true rfl) ?_
  refine va_putF (D := g.1) (ci := 5) (v := .ref q1) (ty := .array (.array .int)) (C := RX7) (T := TX7) (N := 2) hx hb C.2.2.2.2 inX7 tyX7 tyX7_ok nmX7 C.2.2.2.1 hK hP hD hS 0 rfl rfl 0 (by decide) (C.2.2.2.2 _ mw_84) (fun _ h9 => h9) rfl hin rfl (by decide +kernel) rfl rfl (Nat.le_of_ble_eq_true rfl) dX7_init_21 (fun H locs hP hD hS => ?_)
  have hP : va_P g.1 clsL [(h0, .inr (5, [.ref q1, .null])), (q1, .inl (g.2.2.2.1, 6, .inr (.inr (.inr (.inr (fun i => if i < 6 then some (r2 i) else none)))))), ((r2 0), .inl (g.2.2.1, 40, .inl (fun _ => 0))), ((r2 1), .inl (g.2.2.1, 40, .inl (fun _ => 0))), ((r2 2), .inl (g.2.2.1, 40, .inl (fun _ => 0))), ((r2 3), .inl (g.2.2.1, 40, .inl (fun _ => 0))), ((r2 4), .inl (g.2.2.1, 40, .inl (fun _ => 0))), ((r2 5), .inl (g.2.2.1, 40, .inl (fun _ => 0)))] H := hP
  have hD : va_D A [(h0, .inr (5, [.ref q1, .null])), (q1, .inl (g.2.2.2.1, 6, .inr (.inr (.inr (.inr (fun i => if i < 6 then some (r2 i) else none)))))), ((r2 0), .inl (g.2.2.1, 40, .inl (fun _ => 0))), ((r2 1), .inl (g.2.2.1, 40, .inl (fun _ => 0))), ((r2 2), .inl (g.2.2.1, 40, .inl (fun _ => 0))), ((r2 3), .inl (g.2.2.1, 40, .inl (fun _ => 0))), ((r2 4), .inl (g.2.2.1, 40, .inl (fun _ => 0))), ((r2 5), .inl (g.2.2.1, 40, .inl (fun _ => 0)))] := hD
  refine lv_aload_n hx hb dX7_init_24 rfl (lv_at hl 1 rfl) ?_
  refine lv_iload_n hx hb dX7_init_25 rfl (lv_at hl 0 rfl) ?_
  refine z_newi (n := 6) (N' := 6) C hK hP hD hS hA (by decide) (by decide) (by decide) (Nat.le_of_ble_eq_true rfl) (Nat.le_of_ble_eq_true rfl) dX7_init_26 (fun q3 H hP hD hS => ?_)
  have hP : va_P g.1 clsL [(h0, .inr (5, [.ref q1, .null])), (q1, .inl (g.2.2.2.1, 6, .inr (.inr (.inr (.inr (fun i => if i < 6 then some (r2 i) else none)))))), ((r2 0), .inl (g.2.2.1, 40, .inl (fun _ => 0))), ((r2 1), .inl (g.2.2.1, 40, .inl (fun _ => 0))), ((r2 2), .inl (g.2.2.1, 40, .inl (fun _ => 0))), ((r2 3), .inl (g.2.2.1, 40, .inl (fun _ => 0))), ((r2 4), .inl (g.2.2.1, 40, .inl (fun _ => 0))), ((r2 5), .inl (g.2.2.1, 40, .inl (fun _ => 0))), (q3, .inl (g.2.2.1, 6, .inl (fun _ => 0)))] H := hP
  have hD : va_D A [(h0, .inr (5, [.ref q1, .null])), (q1, .inl (g.2.2.2.1, 6, .inr (.inr (.inr (.inr (fun i => if i < 6 then some (r2 i) else none)))))), ((r2 0), .inl (g.2.2.1, 40, .inl (fun _ => 0))), ((r2 1), .inl (g.2.2.1, 40, .inl (fun _ => 0))), ((r2 2), .inl (g.2.2.1, 40, .inl (fun _ => 0))), ((r2 3), .inl (g.2.2.1, 40, .inl (fun _ => 0))), ((r2 4), .inl (g.2.2.1, 40, .inl (fun _ => 0))), ((r2 5), .inl (g.2.2.1, 40, .inl (fun _ => 0))), (q3, .inl (g.2.2.1, 6, .inl (fun _ => 0)))] := hD
  refine W.widen (k := 8) (n := 252) (Nat.le_of_ble_eq_true rfl) (Nat.le_of_ble_eq_true rfl) ?_
  refine va_putF (D := g.1) (ci := 5) (v := .ref q3) (ty := .array .int) (C := RX7) (T := TX7) (N := 2) hx hb C.2.2.2.2 inX7 tyX7 tyX7_ok nmX7 C.2.2.2.1 hK hP hD hS 0 rfl rfl 1 (by decide) (C.2.2.2.2 _ mw_85) (fun _ h9 => h9) rfl hin rfl (by decide +kernel) rfl rfl (Nat.le_of_ble_eq_true rfl) dX7_init_28 (fun H locs hP hD hS => ?_)
  have hP : va_P g.1 clsL [(h0, .inr (5, [.ref q1, .ref q3])), (q1, .inl (g.2.2.2.1, 6, .inr (.inr (.inr (.inr (fun i => if i < 6 then some (r2 i) else none)))))), ((r2 0), .inl (g.2.2.1, 40, .inl (fun _ => 0))), ((r2 1), .inl (g.2.2.1, 40, .inl (fun _ => 0))), ((r2 2), .inl (g.2.2.1, 40, .inl (fun _ => 0))), ((r2 3), .inl (g.2.2.1, 40, .inl (fun _ => 0))), ((r2 4), .inl (g.2.2.1, 40, .inl (fun _ => 0))), ((r2 5), .inl (g.2.2.1, 40, .inl (fun _ => 0))), (q3, .inl (g.2.2.1, 6, .inl (fun _ => 0)))] H := hP
  have hD : va_D A [(h0, .inr (5, [.ref q1, .ref q3])), (q1, .inl (g.2.2.2.1, 6, .inr (.inr (.inr (.inr (fun i => if i < 6 then some (r2 i) else none)))))), ((r2 0), .inl (g.2.2.1, 40, .inl (fun _ => 0))), ((r2 1), .inl (g.2.2.1, 40, .inl (fun _ => 0))), ((r2 2), .inl (g.2.2.1, 40, .inl (fun _ => 0))), ((r2 3), .inl (g.2.2.1, 40, .inl (fun _ => 0))), ((r2 4), .inl (g.2.2.1, 40, .inl (fun _ => 0))), ((r2 5), .inl (g.2.2.1, 40, .inl (fun _ => 0))), (q3, .inl (g.2.2.1, 6, .inl (fun _ => 0)))] := hD
  refine lv_aload_n hx hb dX7_init_31 rfl (lv_at hl 1 rfl) ?_
  refine va_get (D := g.1) (ci := 5) (v := .ref q3) (C := RX7) (T := TX7) (N := 2) hx hb C.2.2.2.2 inX7 C.2.2.2.1 hK hP 0 rfl rfl 1 (by decide) (C.2.2.2.2 _ mw_85) (fun _ h9 => h9) rfl dX7_init_32 ?_
  refine lv_iconst (v := (-1)) hx hb dX7_init_35 (by decide) ?_
  refine z_fill (nn := 6) C hl.1 hK hP hD hS hA ⟨Nat.le_of_ble_eq_true rfl, Nat.le_of_ble_eq_true rfl⟩ (cw_X7_24 C ⟨Nat.le_of_ble_eq_true rfl, Nat.le_of_ble_eq_true rfl⟩) 8 rfl (by decide) (by decide) (Nat.le_of_ble_eq_true rfl) dX7_init_36 (fun H locs hP hD hS => ?_)
  have hP : va_P g.1 clsL [(h0, .inr (5, [.ref q1, .ref q3])), (q1, .inl (g.2.2.2.1, 6, .inr (.inr (.inr (.inr (fun i => if i < 6 then some (r2 i) else none)))))), ((r2 0), .inl (g.2.2.1, 40, .inl (fun _ => 0))), ((r2 1), .inl (g.2.2.1, 40, .inl (fun _ => 0))), ((r2 2), .inl (g.2.2.1, 40, .inl (fun _ => 0))), ((r2 3), .inl (g.2.2.1, 40, .inl (fun _ => 0))), ((r2 4), .inl (g.2.2.1, 40, .inl (fun _ => 0))), ((r2 5), .inl (g.2.2.1, 40, .inl (fun _ => 0))), (q3, .inl (g.2.2.1, 6, .inl (fun j => if j < 6 then (-1) else 0)))] H := hP
  have hD : va_D A [(h0, .inr (5, [.ref q1, .ref q3])), (q1, .inl (g.2.2.2.1, 6, .inr (.inr (.inr (.inr (fun i => if i < 6 then some (r2 i) else none)))))), ((r2 0), .inl (g.2.2.1, 40, .inl (fun _ => 0))), ((r2 1), .inl (g.2.2.1, 40, .inl (fun _ => 0))), ((r2 2), .inl (g.2.2.1, 40, .inl (fun _ => 0))), ((r2 3), .inl (g.2.2.1, 40, .inl (fun _ => 0))), ((r2 4), .inl (g.2.2.1, 40, .inl (fun _ => 0))), ((r2 5), .inl (g.2.2.1, 40, .inl (fun _ => 0))), (q3, .inl (g.2.2.1, 6, .inl (fun j => if j < 6 then (-1) else 0)))] := hD
  subst hAe
  have hg : (fun i : Nat => if i < 6 then some (r2 i) else none) = (fun i : Nat => if i < 6 then some ((fun k => match k with | 0 => h0 | 1 => q1 | 2 => (r2 0) | 3 => (r2 1) | 4 => (r2 2) | 5 => (r2 3) | 6 => (r2 4) | 7 => (r2 5) | 8 => q3 | _ => 0) (2 + i)) else none) := by
    funext i
    match i with
    | 0 => rfl
    | 1 => rfl
    | 2 => rfl
    | 3 => rfl
    | 4 => rfl
    | 5 => rfl
    | i + 6 => rw [if_neg (by omega), if_neg (by omega)]
  rw [hg] at hP hD
  exact z_ret (w1 := fun u => [((u 0), .inr (5, [.ref (u 1), .ref (u 8)])), ((u 1), .inl (g.2.2.2.1, 6, .inr (.inr (.inr (.inr (fun i => if i < 6 then some ((fun i => u (2 + i)) i) else none)))))), ((u 2), .inl (g.2.2.1, 40, .inl (fun _ => 0))), ((u 3), .inl (g.2.2.1, 40, .inl (fun _ => 0))), ((u 4), .inl (g.2.2.1, 40, .inl (fun _ => 0))), ((u 5), .inl (g.2.2.1, 40, .inl (fun _ => 0))), ((u 6), .inl (g.2.2.1, 40, .inl (fun _ => 0))), ((u 7), .inl (g.2.2.1, 40, .inl (fun _ => 0))), ((u 8), .inl (g.2.2.1, 6, .inl (fun j => if j < 6 then (-1) else 0)))]) C hr hlk (fun k => match k with | 0 => h0 | 1 => q1 | 2 => (r2 0) | 3 => (r2 1) | 4 => (r2 2) | 5 => (r2 3) | 6 => (r2 4) | 7 => (r2 5) | 8 => q3 | _ => 0) rfl hP hD hS dX7_init_39
set_option maxHeartbeats 8000000 in
set_option maxRecDepth 100000 in
theorem ci_X7b (l : Launch) (g : GG) (h0 : Nat) : MC l g yX7_init (Cond.code yX7_init cX7_init 4 none :: gtbl) (rmC 2 6 368) h0 [.int 4, .int 90] (.inr (5, [.null, .null])) (fun u => [((u 0), .inr (5, [.ref (u 1), .ref (u 6)])), ((u 1), .inl (g.2.2.2.1, 4, .inr (.inr (.inr (.inr (fun i => if i < 4 then some ((fun i => u (2 + i)) i) else none)))))), ((u 2), .inl (g.2.2.1, 90, .inl (fun _ => 0))), ((u 3), .inl (g.2.2.1, 90, .inl (fun _ => 0))), ((u 4), .inl (g.2.2.1, 90, .inl (fun _ => 0))), ((u 5), .inl (g.2.2.1, 90, .inl (fun _ => 0))), ((u 6), .inl (g.2.2.1, 4, .inl (fun j => if j < 4 then (-1) else 0)))]) 6 368 := by
  refine mc_of (own := RX7) (lv := [(0, .ref h0), (1, .int 4), (2, .int 90)]) (by decide) rfl rfl (Nat.le_of_ble_eq_true rfl) rfl (fun p e s m below meth c ls C hr hlk hin hK hN hP hD hA hl => ?_)
  have hx := C.1
  have hb := C.2.1
  have hS : va_S (va_A [(h0, .inr (5, [.null, .null]))] s.heap.size) s.heap s.heap [] := va_S.rf
  generalize hAe : va_A [(h0, .inr (5, [.null, .null]))] s.heap.size = A at hD hS hA
  refine lv_aload_n hx hb dX7_init_0 rfl (lv_at hl 0 rfl) ?_
  refine W.objInit hx hb C.2.2.2.1 (C.2.2.2.2 _ mw_75) (C.2.2.2.2 _ mw_68) (C.2.2.2.2 _ mw_69) rfl (hl.1.trans C.2.2.1.symm) rfl dX7_init_1 (Nat.le_of_ble_eq_true rfl) (Nat.le_of_ble_eq_true rfl) ?_
  refine W.eq (g2 := F0 m 4 ls []) rfl ?_
  refine lv_iconst (v := 0) hx hb dX7_init_4 (by decide) ?_
  refine lv_iload_n hx hb dX7_init_5 rfl (lv_at hl 1 rfl) ?_
  refine va_mmax hx hb (C.2.2.1.trans hl.1.symm) C.2.2.2.1 (C.2.2.2.2 _ mw_76) (C.2.2.2.2 _ mw_77) (C.2.2.2.2 _ mw_48) (C.2.2.2.2 _ mw_78) (Nat.le_of_ble_eq_true rfl) (Nat.le_of_ble_eq_true rfl) (Nat.le_of_ble_eq_true rfl) (Nat.le_of_ble_eq_true rfl) dX7_init_6 ?_
  refine W.eq (g2 := F0 m 9 ls [.int 4]) (congrArg (fun z : Int32 => F0 m 9 ls [.int z]) (by decide)) ?_
  refine lv_istore_n (lv' := [(3, .int 4), (0, .ref h0), (1, .int 4), (2, .int 90)]) hx hb dX7_init_9 rfl hl (by decide) rfl (fun ls hl => ?_)
  refine lv_aload_n hx hb dX7_init_10 rfl (lv_at hl 1 rfl) ?_
  refine lv_iload_n hx hb dX7_init_11 rfl (lv_at hl 0 rfl) ?_
  refine lv_iconst (v := 0) hx hb dX7_init_12 (by decide) ?_
  refine lv_iload_n hx hb dX7_init_13 rfl (lv_at hl 3 rfl) ?_
  refine va_mmax hx hb (C.2.2.1.trans hl.1.symm) C.2.2.2.1 (C.2.2.2.2 _ mw_76) (C.2.2.2.2 _ mw_77) (C.2.2.2.2 _ mw_48) (C.2.2.2.2 _ mw_78) (Nat.le_of_ble_eq_true rfl) (Nat.le_of_ble_eq_true rfl) (Nat.le_of_ble_eq_true rfl) (Nat.le_of_ble_eq_true rfl) dX7_init_14 ?_
  refine W.eq (g2 := F0 m 17 ls [.int 90, .int 4, .ref h0]) (congrArg (fun z : Int32 => F0 m 17 ls [.int z, .int 4, .ref h0]) (by decide)) ?_
  refine z_mna (n := 4) (k := 90) (N' := 4) (K' := 90) C mw_79 hN.2.2.2.2.2.2 hK hP hD hS hA (by decide) (by decide) (by decide) (by decide) (by decide) (by decide) (Nat.le_of_ble_eq_true rfl) (Nat.le_of_ble_eq_true rfl) dX7_init_17 (fun q1 r2 H hP hD hS => ?_)
  have hP : va_P g.1 clsL [(h0, .inr (5, [.null, .null])), (q1, .inl (g.2.2.2.1, 4, .inr (.inr (.inr (.inr (fun i => if i < 4 then some (r2 i) else none)))))), ((r2 0), .inl (g.2.2.1, 90, .inl (fun _ => 0))), ((r2 1), .inl (g.2.2.1, 90, .inl (fun _ => 0))), ((r2 2), .inl (g.2.2.1, 90, .inl (fun _ => 0))), ((r2 3), .inl (g.2.2.1, 90, .inl (fun _ => 0)))] H := hP
  have hD : va_D A [(h0, .inr (5, [.null, .null])), (q1, .inl (g.2.2.2.1, 4, .inr (.inr (.inr (.inr (fun i => if i < 4 then some (r2 i) else none)))))), ((r2 0), .inl (g.2.2.1, 90, .inl (fun _ => 0))), ((r2 1), .inl (g.2.2.1, 90, .inl (fun _ => 0))), ((r2 2), .inl (g.2.2.1, 90, .inl (fun _ => 0))), ((r2 3), .inl (g.2.2.1, 90, .inl (fun _ => 0)))] := hD
  refine W.widen (k := 5) (n := 364) (Nat.le_of_ble_eq_true rfl) (Nat.le_of_ble_eq_true rfl) ?_
  refine va_putF (D := g.1) (ci := 5) (v := .ref q1) (ty := .array (.array .int)) (C := RX7) (T := TX7) (N := 2) hx hb C.2.2.2.2 inX7 tyX7 tyX7_ok nmX7 C.2.2.2.1 hK hP hD hS 0 rfl rfl 0 (by decide) (C.2.2.2.2 _ mw_84) (fun _ h9 => h9) rfl hin rfl (by decide +kernel) rfl rfl (Nat.le_of_ble_eq_true rfl) dX7_init_21 (fun H locs hP hD hS => ?_)
  have hP : va_P g.1 clsL [(h0, .inr (5, [.ref q1, .null])), (q1, .inl (g.2.2.2.1, 4, .inr (.inr (.inr (.inr (fun i => if i < 4 then some (r2 i) else none)))))), ((r2 0), .inl (g.2.2.1, 90, .inl (fun _ => 0))), ((r2 1), .inl (g.2.2.1, 90, .inl (fun _ => 0))), ((r2 2), .inl (g.2.2.1, 90, .inl (fun _ => 0))), ((r2 3), .inl (g.2.2.1, 90, .inl (fun _ => 0)))] H := hP
  have hD : va_D A [(h0, .inr (5, [.ref q1, .null])), (q1, .inl (g.2.2.2.1, 4, .inr (.inr (.inr (.inr (fun i => if i < 4 then some (r2 i) else none)))))), ((r2 0), .inl (g.2.2.1, 90, .inl (fun _ => 0))), ((r2 1), .inl (g.2.2.1, 90, .inl (fun _ => 0))), ((r2 2), .inl (g.2.2.1, 90, .inl (fun _ => 0))), ((r2 3), .inl (g.2.2.1, 90, .inl (fun _ => 0)))] := hD
  refine lv_aload_n hx hb dX7_init_24 rfl (lv_at hl 1 rfl) ?_
  refine lv_iload_n hx hb dX7_init_25 rfl (lv_at hl 0 rfl) ?_
  refine z_newi (n := 4) (N' := 4) C hK hP hD hS hA (by decide) (by decide) (by decide) (Nat.le_of_ble_eq_true rfl) (Nat.le_of_ble_eq_true rfl) dX7_init_26 (fun q3 H hP hD hS => ?_)
  have hP : va_P g.1 clsL [(h0, .inr (5, [.ref q1, .null])), (q1, .inl (g.2.2.2.1, 4, .inr (.inr (.inr (.inr (fun i => if i < 4 then some (r2 i) else none)))))), ((r2 0), .inl (g.2.2.1, 90, .inl (fun _ => 0))), ((r2 1), .inl (g.2.2.1, 90, .inl (fun _ => 0))), ((r2 2), .inl (g.2.2.1, 90, .inl (fun _ => 0))), ((r2 3), .inl (g.2.2.1, 90, .inl (fun _ => 0))), (q3, .inl (g.2.2.1, 4, .inl (fun _ => 0)))] H := hP
  have hD : va_D A [(h0, .inr (5, [.ref q1, .null])), (q1, .inl (g.2.2.2.1, 4, .inr (.inr (.inr (.inr (fun i => if i < 4 then some (r2 i) else none)))))), ((r2 0), .inl (g.2.2.1, 90, .inl (fun _ => 0))), ((r2 1), .inl (g.2.2.1, 90, .inl (fun _ => 0))), ((r2 2), .inl (g.2.2.1, 90, .inl (fun _ => 0))), ((r2 3), .inl (g.2.2.1, 90, .inl (fun _ => 0))), (q3, .inl (g.2.2.1, 4, .inl (fun _ => 0)))] := hD
  refine W.widen (k := 6) (n := 368) (Nat.le_of_ble_eq_true rfl) (Nat.le_of_ble_eq_true rfl) ?_
  refine va_putF (D := g.1) (ci := 5) (v := .ref q3) (ty := .array .int) (C := RX7) (T := TX7) (N := 2) hx hb C.2.2.2.2 inX7 tyX7 tyX7_ok nmX7 C.2.2.2.1 hK hP hD hS 0 rfl rfl 1 (by decide) (C.2.2.2.2 _ mw_85) (fun _ h9 => h9) rfl hin rfl (by decide +kernel) rfl rfl (Nat.le_of_ble_eq_true rfl) dX7_init_28 (fun H locs hP hD hS => ?_)
  have hP : va_P g.1 clsL [(h0, .inr (5, [.ref q1, .ref q3])), (q1, .inl (g.2.2.2.1, 4, .inr (.inr (.inr (.inr (fun i => if i < 4 then some (r2 i) else none)))))), ((r2 0), .inl (g.2.2.1, 90, .inl (fun _ => 0))), ((r2 1), .inl (g.2.2.1, 90, .inl (fun _ => 0))), ((r2 2), .inl (g.2.2.1, 90, .inl (fun _ => 0))), ((r2 3), .inl (g.2.2.1, 90, .inl (fun _ => 0))), (q3, .inl (g.2.2.1, 4, .inl (fun _ => 0)))] H := hP
  have hD : va_D A [(h0, .inr (5, [.ref q1, .ref q3])), (q1, .inl (g.2.2.2.1, 4, .inr (.inr (.inr (.inr (fun i => if i < 4 then some (r2 i) else none)))))), ((r2 0), .inl (g.2.2.1, 90, .inl (fun _ => 0))), ((r2 1), .inl (g.2.2.1, 90, .inl (fun _ => 0))), ((r2 2), .inl (g.2.2.1, 90, .inl (fun _ => 0))), ((r2 3), .inl (g.2.2.1, 90, .inl (fun _ => 0))), (q3, .inl (g.2.2.1, 4, .inl (fun _ => 0)))] := hD
  refine lv_aload_n hx hb dX7_init_31 rfl (lv_at hl 1 rfl) ?_
  refine va_get (D := g.1) (ci := 5) (v := .ref q3) (C := RX7) (T := TX7) (N := 2) hx hb C.2.2.2.2 inX7 C.2.2.2.1 hK hP 0 rfl rfl 1 (by decide) (C.2.2.2.2 _ mw_85) (fun _ h9 => h9) rfl dX7_init_32 ?_
  refine lv_iconst (v := (-1)) hx hb dX7_init_35 (by decide) ?_
  refine z_fill (nn := 4) C hl.1 hK hP hD hS hA ⟨Nat.le_of_ble_eq_true rfl, Nat.le_of_ble_eq_true rfl⟩ (cw_X7_24 C ⟨Nat.le_of_ble_eq_true rfl, Nat.le_of_ble_eq_true rfl⟩) 6 rfl (by decide) (by decide) (Nat.le_of_ble_eq_true rfl) dX7_init_36 (fun H locs hP hD hS => ?_)
  have hP : va_P g.1 clsL [(h0, .inr (5, [.ref q1, .ref q3])), (q1, .inl (g.2.2.2.1, 4, .inr (.inr (.inr (.inr (fun i => if i < 4 then some (r2 i) else none)))))), ((r2 0), .inl (g.2.2.1, 90, .inl (fun _ => 0))), ((r2 1), .inl (g.2.2.1, 90, .inl (fun _ => 0))), ((r2 2), .inl (g.2.2.1, 90, .inl (fun _ => 0))), ((r2 3), .inl (g.2.2.1, 90, .inl (fun _ => 0))), (q3, .inl (g.2.2.1, 4, .inl (fun j => if j < 4 then (-1) else 0)))] H := hP
  have hD : va_D A [(h0, .inr (5, [.ref q1, .ref q3])), (q1, .inl (g.2.2.2.1, 4, .inr (.inr (.inr (.inr (fun i => if i < 4 then some (r2 i) else none)))))), ((r2 0), .inl (g.2.2.1, 90, .inl (fun _ => 0))), ((r2 1), .inl (g.2.2.1, 90, .inl (fun _ => 0))), ((r2 2), .inl (g.2.2.1, 90, .inl (fun _ => 0))), ((r2 3), .inl (g.2.2.1, 90, .inl (fun _ => 0))), (q3, .inl (g.2.2.1, 4, .inl (fun j => if j < 4 then (-1) else 0)))] := hD
  subst hAe
  have hg : (fun i : Nat => if i < 4 then some (r2 i) else none) = (fun i : Nat => if i < 4 then some ((fun k => match k with | 0 => h0 | 1 => q1 | 2 => (r2 0) | 3 => (r2 1) | 4 => (r2 2) | 5 => (r2 3) | 6 => q3 | _ => 0) (2 + i)) else none) := by
    funext i
    match i with
    | 0 => rfl
    | 1 => rfl
    | 2 => rfl
    | 3 => rfl
    | i + 4 => rw [if_neg (by omega), if_neg (by omega)]
  rw [hg] at hP hD
  exact z_ret (w1 := fun u => [((u 0), .inr (5, [.ref (u 1), .ref (u 6)])), ((u 1), .inl (g.2.2.2.1, 4, .inr (.inr (.inr (.inr (fun i => if i < 4 then some ((fun i => u (2 + i)) i) else none)))))), ((u 2), .inl (g.2.2.1, 90, .inl (fun _ => 0))), ((u 3), .inl (g.2.2.1, 90, .inl (fun _ => 0))), ((u 4), .inl (g.2.2.1, 90, .inl (fun _ => 0))), ((u 5), .inl (g.2.2.1, 90, .inl (fun _ => 0))), ((u 6), .inl (g.2.2.1, 4, .inl (fun j => if j < 4 then (-1) else 0)))]) C hr hlk (fun k => match k with | 0 => h0 | 1 => q1 | 2 => (r2 0) | 3 => (r2 1) | 4 => (r2 2) | 5 => (r2 3) | 6 => q3 | _ => 0) rfl hP hD hS dX7_init_39
