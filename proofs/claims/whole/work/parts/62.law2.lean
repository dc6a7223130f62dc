set_option maxHeartbeats 4000000 in
set_option maxRecDepth 100000 in
theorem lc_next {p : Program} {l : Launch} {e : Env} {s : State} {m : MethodId} {below : List Frame} {meth : Method} {c : Code} {b L : Nat} {xs : Nat → Int32} {Q : State → Prop} {gC gM : GG} {Rel : St → St → Prop} (hL : L ≤ 3072) (C0 : lw_At p s m meth c b L xs) (hKC : KS gC s) (hKM : KS gM s) (hap : ∀ i j, i < 52 → j < 25 → gC.2.1 i ≠ gM.2.1 j) (hS : ∀ (τ σ : St), Rel τ σ → ∃ (τ' σ' : St) (r : Int32), fX10_next τ = some (τ', r) ∧ fX11_next σ = some (σ', r) ∧ Rel τ' σ') {τ σ : St} (hR : Rel τ σ) {H : Heap} {locs : List Loc} (hsC : HW 52 entC gC (fun q : Nat => s.heap.size ≤ q) s.heap H locs τ) (hsM : HW 25 entM gM (fun q : Nat => s.heap.size ≤ q) s.heap H locs σ) {i : Nat} (hi : i + 6 ≤ L) {ls : Array Slot} (hl : lv_has ls 4 [(0, .ref b), (1, .ref (gC.2.1 0)), (2, .ref (gM.2.1 0)), (3, .int (nI i))]) (kk : ∀ (τ σ : St) (H : Heap) (locs : List Loc) (ls : Array Slot), Rel τ σ → HW 52 entC gC (fun q : Nat => s.heap.size ≤ q) s.heap H locs τ → HW 25 entM gM (fun q : Nat => s.heap.size ≤ q) s.heap H locs σ → lv_has ls 4 [(0, .ref b), (1, .ref (gC.2.1 0)), (2, .ref (gM.2.1 0)), (3, .int (nI i))] → W p l e room_1 s m #[Value.ref b] below meth c H locs 600000 7302250 Q (F0 m 1499 ls [])) : W p l e room_1 s m #[Value.ref b] below meth c H locs 600000 7302250 Q (F0 m 940 ls []) := by
  have C := cf_law C0
  obtain ⟨hx, hb, hr, hml, hown, hts, hX, hbl, hlocks, hgv⟩ := id C0
  have hA : ∀ q : Nat, s.heap.size ≤ q → (fun q : Nat => s.heap.size ≤ q) q := fun _ h => h
  have hbA : ¬ (fun q : Nat => s.heap.size ≤ q) b := Nat.not_le.mpr hbl
  obtain ⟨τ1, σ1, r, hE1, hE2, hR1⟩ := hS τ σ hR 
  refine lv_aload_n hx hb dL_law_940 rfl (lv_at hl 1 rfl) ?_
  refine xl_civ (As := []) (rest := []) C hl.1 hKC hsC hA ⟨Nat.le_refl _, Nat.le_refl _⟩ (ctX10_next l gC _  _ _ hE1) (cw_L_107 C ⟨Nat.le_of_ble_eq_true rfl, Nat.le_of_ble_eq_true rfl⟩) (hsC.recv hKC 0 (by decide) rfl rfl) rfl rfl (Nat.le_of_ble_eq_true rfl) dL_law_941 (fun H1 locs1 hsC hk => ?_)
  have hsM := hsM.other (fun i j hi hj e => hap j i hj hi e.symm) hk hsC
  refine lv_aload_n hx hb dL_law_944 rfl (lv_at hl 2 rfl) ?_
  refine xl_civ (As := []) (rest := [.int r]) C hl.1 hKM hsM hA ⟨Nat.le_refl _, Nat.le_refl _⟩ (ctX11_next l gM _  _ _ hE2) (cw_L_110 C ⟨Nat.le_of_ble_eq_true rfl, Nat.le_of_ble_eq_true rfl⟩) (hsM.recv hKM 0 (by decide) rfl rfl) rfl rfl (Nat.le_of_ble_eq_true rfl) dL_law_945 (fun H2 locs2 hsM hk => ?_)
  have hsC := hsC.other hap hk hsM
  refine lv_icmp_eq (tgt := 1499) hx hb dL_law_948 (by decide) (fun hc => ?_) (fun hc => ?_)
  · exact kk τ1 σ1 H2 locs2 ls hR1 hsC hsM hl
  · exact absurd rfl hc
set_option maxHeartbeats 4000000 in
set_option maxRecDepth 100000 in
theorem lc_fades {p : Program} {l : Launch} {e : Env} {s : State} {m : MethodId} {below : List Frame} {meth : Method} {c : Code} {b L : Nat} {xs : Nat → Int32} {Q : State → Prop} {gC gM : GG} {Rel : St → St → Prop} (hL : L ≤ 3072) (C0 : lw_At p s m meth c b L xs) (hKC : KS gC s) (hKM : KS gM s) (hap : ∀ i j, i < 52 → j < 25 → gC.2.1 i ≠ gM.2.1 j) (hS : ∀ (τ σ : St), Rel τ σ → ∀ (a1 : Int32) , ∃ (τ' σ' : St) (r : Int32), fX10_fades τ a1 = some (τ', r) ∧ fX11_fades σ a1 = some (σ', r) ∧ Rel τ' σ') {τ σ : St} (hR : Rel τ σ) {H : Heap} {locs : List Loc} (hsC : HW 52 entC gC (fun q : Nat => s.heap.size ≤ q) s.heap H locs τ) (hsM : HW 25 entM gM (fun q : Nat => s.heap.size ≤ q) s.heap H locs σ) {i : Nat} (hi : i + 6 ≤ L) {ls : Array Slot} (hl : lv_has ls 4 [(0, .ref b), (1, .ref (gC.2.1 0)), (2, .ref (gM.2.1 0)), (3, .int (nI i))]) (kk : ∀ (τ σ : St) (H : Heap) (locs : List Loc) (ls : Array Slot), Rel τ σ → HW 52 entC gC (fun q : Nat => s.heap.size ≤ q) s.heap H locs τ → HW 25 entM gM (fun q : Nat => s.heap.size ≤ q) s.heap H locs σ → lv_has ls 4 [(0, .ref b), (1, .ref (gC.2.1 0)), (2, .ref (gM.2.1 0)), (3, .int (nI i))] → W p l e room_1 s m #[Value.ref b] below meth c H locs 600000 7302250 Q (F0 m 1499 ls [])) : W p l e room_1 s m #[Value.ref b] below meth c H locs 600000 7302250 Q (F0 m 953 ls []) := by
  have C := cf_law C0
  obtain ⟨hx, hb, hr, hml, hown, hts, hX, hbl, hlocks, hgv⟩ := id C0
  have hA : ∀ q : Nat, s.heap.size ≤ q → (fun q : Nat => s.heap.size ≤ q) q := fun _ h => h
  have hbA : ¬ (fun q : Nat => s.heap.size ≤ q) b := Nat.not_le.mpr hbl
  obtain ⟨τ1, σ1, r, hE1, hE2, hR1⟩ := hS τ σ hR (xs (nI i + 1).toNatClampNeg)
  refine lv_aload_n hx hb dL_law_953 rfl (lv_at hl 1 rfl) ?_
  refine lv_aload_n hx hb dL_law_954 rfl (lv_at hl 0 rfl) ?_
  refine lv_iload_n hx hb dL_law_955 rfl (lv_at hl 3 rfl) ?_
  refine lv_iconst (v := 1) hx hb dL_law_956 (by decide) ?_
  refine lv_iadd hx hb dL_law_957 ?_
  refine va_sld hx hb hX hbl hbA hsC.2.2 (nI_k (k := 1) hi hL (by decide)) dL_law_958 ?_
  refine xl_civ (As := [.int (xs (nI i + 1).toNatClampNeg)]) (rest := []) C hl.1 hKC hsC hA ⟨Nat.le_refl _, Nat.le_refl _⟩ (ctX10_fades l gC _ _ _ _ hE1) (cw_L_111 C ⟨Nat.le_of_ble_eq_true rfl, Nat.le_of_ble_eq_true rfl⟩) (hsC.recv hKC 0 (by decide) rfl rfl) rfl rfl (Nat.le_of_ble_eq_true rfl) dL_law_959 (fun H1 locs1 hsC hk => ?_)
  have hsM := hsM.other (fun i j hi hj e => hap j i hj hi e.symm) hk hsC
  refine lv_aload_n hx hb dL_law_962 rfl (lv_at hl 2 rfl) ?_
  refine lv_aload_n hx hb dL_law_963 rfl (lv_at hl 0 rfl) ?_
  refine lv_iload_n hx hb dL_law_964 rfl (lv_at hl 3 rfl) ?_
  refine lv_iconst (v := 1) hx hb dL_law_965 (by decide) ?_
  refine lv_iadd hx hb dL_law_966 ?_
  refine va_sld hx hb hX hbl hbA hsC.2.2 (nI_k (k := 1) hi hL (by decide)) dL_law_967 ?_
  refine xl_civ (As := [.int (xs (nI i + 1).toNatClampNeg)]) (rest := [.int r]) C hl.1 hKM hsM hA ⟨Nat.le_refl _, Nat.le_refl _⟩ (ctX11_fades l gM _ _ _ _ hE2) (cw_L_114 C ⟨Nat.le_of_ble_eq_true rfl, Nat.le_of_ble_eq_true rfl⟩) (hsM.recv hKM 0 (by decide) rfl rfl) rfl rfl (Nat.le_of_ble_eq_true rfl) dL_law_968 (fun H2 locs2 hsM hk => ?_)
  have hsC := hsC.other hap hk hsM
  refine lv_icmp_eq (tgt := 1499) hx hb dL_law_971 (by decide) (fun hc => ?_) (fun hc => ?_)
  · exact kk τ1 σ1 H2 locs2 ls hR1 hsC hsM hl
  · exact absurd rfl hc
set_option maxHeartbeats 4000000 in
set_option maxRecDepth 100000 in
theorem lc_later {p : Program} {l : Launch} {e : Env} {s : State} {m : MethodId} {below : List Frame} {meth : Method} {c : Code} {b L : Nat} {xs : Nat → Int32} {Q : State → Prop} {gC gM : GG} {Rel : St → St → Prop} (hL : L ≤ 3072) (C0 : lw_At p s m meth c b L xs) (hKC : KS gC s) (hKM : KS gM s) (hap : ∀ i j, i < 52 → j < 25 → gC.2.1 i ≠ gM.2.1 j) (hS : ∀ (τ σ : St), Rel τ σ → ∀ (a1 a2 : Int32) , ∃ (τ' σ' : St) (r : Int32), fX10_later τ a1 a2 = some (τ', r) ∧ fX11_later σ a1 a2 = some (σ', r) ∧ Rel τ' σ') {τ σ : St} (hR : Rel τ σ) {H : Heap} {locs : List Loc} (hsC : HW 52 entC gC (fun q : Nat => s.heap.size ≤ q) s.heap H locs τ) (hsM : HW 25 entM gM (fun q : Nat => s.heap.size ≤ q) s.heap H locs σ) {i : Nat} (hi : i + 6 ≤ L) {ls : Array Slot} (hl : lv_has ls 4 [(0, .ref b), (1, .ref (gC.2.1 0)), (2, .ref (gM.2.1 0)), (3, .int (nI i))]) (kk : ∀ (τ σ : St) (H : Heap) (locs : List Loc) (ls : Array Slot), Rel τ σ → HW 52 entC gC (fun q : Nat => s.heap.size ≤ q) s.heap H locs τ → HW 25 entM gM (fun q : Nat => s.heap.size ≤ q) s.heap H locs σ → lv_has ls 4 [(0, .ref b), (1, .ref (gC.2.1 0)), (2, .ref (gM.2.1 0)), (3, .int (nI i))] → W p l e room_1 s m #[Value.ref b] below meth c H locs 600000 7302250 Q (F0 m 1499 ls [])) : W p l e room_1 s m #[Value.ref b] below meth c H locs 600000 7302250 Q (F0 m 976 ls []) := by
  have C := cf_law C0
  obtain ⟨hx, hb, hr, hml, hown, hts, hX, hbl, hlocks, hgv⟩ := id C0
  have hA : ∀ q : Nat, s.heap.size ≤ q → (fun q : Nat => s.heap.size ≤ q) q := fun _ h => h
  have hbA : ¬ (fun q : Nat => s.heap.size ≤ q) b := Nat.not_le.mpr hbl
  obtain ⟨τ1, σ1, r, hE1, hE2, hR1⟩ := hS τ σ hR (xs (nI i + 1).toNatClampNeg) (xs (nI i + 2).toNatClampNeg)
  refine lv_aload_n hx hb dL_law_976 rfl (lv_at hl 1 rfl) ?_
  refine lv_aload_n hx hb dL_law_977 rfl (lv_at hl 0 rfl) ?_
  refine lv_iload_n hx hb dL_law_978 rfl (lv_at hl 3 rfl) ?_
  refine lv_iconst (v := 1) hx hb dL_law_979 (by decide) ?_
  refine lv_iadd hx hb dL_law_980 ?_
  refine va_sld hx hb hX hbl hbA hsC.2.2 (nI_k (k := 1) hi hL (by decide)) dL_law_981 ?_
  refine lv_aload_n hx hb dL_law_982 rfl (lv_at hl 0 rfl) ?_
  refine lv_iload_n hx hb dL_law_983 rfl (lv_at hl 3 rfl) ?_
  refine lv_iconst (v := 2) hx hb dL_law_984 (by decide) ?_
  refine lv_iadd hx hb dL_law_985 ?_
  refine va_sld hx hb hX hbl hbA hsC.2.2 (nI_k (k := 2) hi hL (by decide)) dL_law_986 ?_
  refine xl_civ (As := [.int (xs (nI i + 1).toNatClampNeg), .int (xs (nI i + 2).toNatClampNeg)]) (rest := []) C hl.1 hKC hsC hA ⟨Nat.le_refl _, Nat.le_refl _⟩ (ctX10_later l gC _ _ _ _ _ hE1) (cw_L_115 C ⟨Nat.le_of_ble_eq_true rfl, Nat.le_of_ble_eq_true rfl⟩) (hsC.recv hKC 0 (by decide) rfl rfl) rfl rfl (Nat.le_of_ble_eq_true rfl) dL_law_987 (fun H1 locs1 hsC hk => ?_)
  have hsM := hsM.other (fun i j hi hj e => hap j i hj hi e.symm) hk hsC
  refine lv_aload_n hx hb dL_law_990 rfl (lv_at hl 2 rfl) ?_
  refine lv_aload_n hx hb dL_law_991 rfl (lv_at hl 0 rfl) ?_
  refine lv_iload_n hx hb dL_law_992 rfl (lv_at hl 3 rfl) ?_
  refine lv_iconst (v := 1) hx hb dL_law_993 (by decide) ?_
  refine lv_iadd hx hb dL_law_994 ?_
  refine va_sld hx hb hX hbl hbA hsC.2.2 (nI_k (k := 1) hi hL (by decide)) dL_law_995 ?_
  refine lv_aload_n hx hb dL_law_996 rfl (lv_at hl 0 rfl) ?_
  refine lv_iload_n hx hb dL_law_997 rfl (lv_at hl 3 rfl) ?_
  refine lv_iconst (v := 2) hx hb dL_law_998 (by decide) ?_
  refine lv_iadd hx hb dL_law_999 ?_
  refine va_sld hx hb hX hbl hbA hsC.2.2 (nI_k (k := 2) hi hL (by decide)) dL_law_1000 ?_
  refine xl_civ (As := [.int (xs (nI i + 1).toNatClampNeg), .int (xs (nI i + 2).toNatClampNeg)]) (rest := [.int r]) C hl.1 hKM hsM hA ⟨Nat.le_refl _, Nat.le_refl _⟩ (ctX11_later l gM _ _ _ _ _ hE2) (cw_L_118 C ⟨Nat.le_of_ble_eq_true rfl, Nat.le_of_ble_eq_true rfl⟩) (hsM.recv hKM 0 (by decide) rfl rfl) rfl rfl (Nat.le_of_ble_eq_true rfl) dL_law_1001 (fun H2 locs2 hsM hk => ?_)
  have hsC := hsC.other hap hk hsM
  refine lv_icmp_eq (tgt := 1499) hx hb dL_law_1004 (by decide) (fun hc => ?_) (fun hc => ?_)
  · exact kk τ1 σ1 H2 locs2 ls hR1 hsC hsM hl
  · exact absurd rfl hc
set_option maxHeartbeats 4000000 in
set_option maxRecDepth 100000 in
theorem lc_soon {p : Program} {l : Launch} {e : Env} {s : State} {m : MethodId} {below : List Frame} {meth : Method} {c : Code} {b L : Nat} {xs : Nat → Int32} {Q : State → Prop} {gC gM : GG} {Rel : St → St → Prop} (hL : L ≤ 3072) (C0 : lw_At p s m meth c b L xs) (hKC : KS gC s) (hKM : KS gM s) (hap : ∀ i j, i < 52 → j < 25 → gC.2.1 i ≠ gM.2.1 j) (hS : ∀ (τ σ : St), Rel τ σ → ∀ (a1 a2 : Int32) , ∃ (τ' σ' : St) (r : Int32), fX10_soon τ a1 a2 = some (τ', r) ∧ fX11_soon σ a1 a2 = some (σ', r) ∧ Rel τ' σ') {τ σ : St} (hR : Rel τ σ) {H : Heap} {locs : List Loc} (hsC : HW 52 entC gC (fun q : Nat => s.heap.size ≤ q) s.heap H locs τ) (hsM : HW 25 entM gM (fun q : Nat => s.heap.size ≤ q) s.heap H locs σ) {i : Nat} (hi : i + 6 ≤ L) {ls : Array Slot} (hl : lv_has ls 4 [(0, .ref b), (1, .ref (gC.2.1 0)), (2, .ref (gM.2.1 0)), (3, .int (nI i))]) (kk : ∀ (τ σ : St) (H : Heap) (locs : List Loc) (ls : Array Slot), Rel τ σ → HW 52 entC gC (fun q : Nat => s.heap.size ≤ q) s.heap H locs τ → HW 25 entM gM (fun q : Nat => s.heap.size ≤ q) s.heap H locs σ → lv_has ls 4 [(0, .ref b), (1, .ref (gC.2.1 0)), (2, .ref (gM.2.1 0)), (3, .int (nI i))] → W p l e room_1 s m #[Value.ref b] below meth c H locs 600000 7302250 Q (F0 m 1499 ls [])) : W p l e room_1 s m #[Value.ref b] below meth c H locs 600000 7302250 Q (F0 m 1009 ls []) := by
  have C := cf_law C0
  obtain ⟨hx, hb, hr, hml, hown, hts, hX, hbl, hlocks, hgv⟩ := id C0
  have hA : ∀ q : Nat, s.heap.size ≤ q → (fun q : Nat => s.heap.size ≤ q) q := fun _ h => h
  have hbA : ¬ (fun q : Nat => s.heap.size ≤ q) b := Nat.not_le.mpr hbl
  obtain ⟨τ1, σ1, r, hE1, hE2, hR1⟩ := hS τ σ hR (xs (nI i + 1).toNatClampNeg) (xs (nI i + 2).toNatClampNeg)
  refine lv_aload_n hx hb dL_law_1009 rfl (lv_at hl 1 rfl) ?_
  refine lv_aload_n hx hb dL_law_1010 rfl (lv_at hl 0 rfl) ?_
  refine lv_iload_n hx hb dL_law_1011 rfl (lv_at hl 3 rfl) ?_
  refine lv_iconst (v := 1) hx hb dL_law_1012 (by decide) ?_
  refine lv_iadd hx hb dL_law_1013 ?_
  refine va_sld hx hb hX hbl hbA hsC.2.2 (nI_k (k := 1) hi hL (by decide)) dL_law_1014 ?_
  refine lv_aload_n hx hb dL_law_1015 rfl (lv_at hl 0 rfl) ?_
  refine lv_iload_n hx hb dL_law_1016 rfl (lv_at hl 3 rfl) ?_
  refine lv_iconst (v := 2) hx hb dL_law_1017 (by decide) ?_
  refine lv_iadd hx hb dL_law_1018 ?_
  refine va_sld hx hb hX hbl hbA hsC.2.2 (nI_k (k := 2) hi hL (by decide)) dL_law_1019 ?_
  refine xl_civ (As := [.int (xs (nI i + 1).toNatClampNeg), .int (xs (nI i + 2).toNatClampNeg)]) (rest := []) C hl.1 hKC hsC hA ⟨Nat.le_refl _, Nat.le_refl _⟩ (ctX10_soon l gC _ _ _ _ _ hE1) (cw_L_119 C ⟨Nat.le_of_ble_eq_true rfl, Nat.le_of_ble_eq_true rfl⟩) (hsC.recv hKC 0 (by decide) rfl rfl) rfl rfl (Nat.le_of_ble_eq_true rfl) dL_law_1020 (fun H1 locs1 hsC hk => ?_)
  have hsM := hsM.other (fun i j hi hj e => hap j i hj hi e.symm) hk hsC
  refine lv_aload_n hx hb dL_law_1023 rfl (lv_at hl 2 rfl) ?_
  refine lv_aload_n hx hb dL_law_1024 rfl (lv_at hl 0 rfl) ?_
  refine lv_iload_n hx hb dL_law_1025 rfl (lv_at hl 3 rfl) ?_
  refine lv_iconst (v := 1) hx hb dL_law_1026 (by decide) ?_
  refine lv_iadd hx hb dL_law_1027 ?_
  refine va_sld hx hb hX hbl hbA hsC.2.2 (nI_k (k := 1) hi hL (by decide)) dL_law_1028 ?_
  refine lv_aload_n hx hb dL_law_1029 rfl (lv_at hl 0 rfl) ?_
  refine lv_iload_n hx hb dL_law_1030 rfl (lv_at hl 3 rfl) ?_
  refine lv_iconst (v := 2) hx hb dL_law_1031 (by decide) ?_
  refine lv_iadd hx hb dL_law_1032 ?_
  refine va_sld hx hb hX hbl hbA hsC.2.2 (nI_k (k := 2) hi hL (by decide)) dL_law_1033 ?_
  refine xl_civ (As := [.int (xs (nI i + 1).toNatClampNeg), .int (xs (nI i + 2).toNatClampNeg)]) (rest := [.int r]) C hl.1 hKM hsM hA ⟨Nat.le_refl _, Nat.le_refl _⟩ (ctX11_soon l gM _ _ _ _ _ hE2) (cw_L_122 C ⟨Nat.le_of_ble_eq_true rfl, Nat.le_of_ble_eq_true rfl⟩) (hsM.recv hKM 0 (by decide) rfl rfl) rfl rfl (Nat.le_of_ble_eq_true rfl) dL_law_1034 (fun H2 locs2 hsM hk => ?_)
  have hsC := hsC.other hap hk hsM
  refine lv_icmp_eq (tgt := 1499) hx hb dL_law_1037 (by decide) (fun hc => ?_) (fun hc => ?_)
  · exact kk τ1 σ1 H2 locs2 ls hR1 hsC hsM hl
  · exact absurd rfl hc
set_option maxHeartbeats 4000000 in
set_option maxRecDepth 100000 in
theorem lc_feast {p : Program} {l : Launch} {e : Env} {s : State} {m : MethodId} {below : List Frame} {meth : Method} {c : Code} {b L : Nat} {xs : Nat → Int32} {Q : State → Prop} {gC gM : GG} {Rel : St → St → Prop} (hL : L ≤ 3072) (C0 : lw_At p s m meth c b L xs) (hKC : KS gC s) (hKM : KS gM s) (hap : ∀ i j, i < 52 → j < 25 → gC.2.1 i ≠ gM.2.1 j) (hS : ∀ (τ σ : St), Rel τ σ → ∀ (a1 a2 : Int32) , ∃ (τ' σ' : St) (r : Int32), fX10_feast τ a1 a2 = some (τ', r) ∧ fX11_feast σ a1 a2 = some (σ', r) ∧ Rel τ' σ') {τ σ : St} (hR : Rel τ σ) {H : Heap} {locs : List Loc} (hsC : HW 52 entC gC (fun q : Nat => s.heap.size ≤ q) s.heap H locs τ) (hsM : HW 25 entM gM (fun q : Nat => s.heap.size ≤ q) s.heap H locs σ) {i : Nat} (hi : i + 6 ≤ L) {ls : Array Slot} (hl : lv_has ls 4 [(0, .ref b), (1, .ref (gC.2.1 0)), (2, .ref (gM.2.1 0)), (3, .int (nI i))]) (kk : ∀ (τ σ : St) (H : Heap) (locs : List Loc) (ls : Array Slot), Rel τ σ → HW 52 entC gC (fun q : Nat => s.heap.size ≤ q) s.heap H locs τ → HW 25 entM gM (fun q : Nat => s.heap.size ≤ q) s.heap H locs σ → lv_has ls 4 [(0, .ref b), (1, .ref (gC.2.1 0)), (2, .ref (gM.2.1 0)), (3, .int (nI i))] → W p l e room_1 s m #[Value.ref b] below meth c H locs 600000 7302250 Q (F0 m 1499 ls [])) : W p l e room_1 s m #[Value.ref b] below meth c H locs 600000 7302250 Q (F0 m 1042 ls []) := by
  have C := cf_law C0
  obtain ⟨hx, hb, hr, hml, hown, hts, hX, hbl, hlocks, hgv⟩ := id C0
  have hA : ∀ q : Nat, s.heap.size ≤ q → (fun q : Nat => s.heap.size ≤ q) q := fun _ h => h
  have hbA : ¬ (fun q : Nat => s.heap.size ≤ q) b := Nat.not_le.mpr hbl
  obtain ⟨τ1, σ1, r, hE1, hE2, hR1⟩ := hS τ σ hR (xs (nI i + 1).toNatClampNeg) (xs (nI i + 2).toNatClampNeg)
  refine lv_aload_n hx hb dL_law_1042 rfl (lv_at hl 1 rfl) ?_
  refine lv_aload_n hx hb dL_law_1043 rfl (lv_at hl 0 rfl) ?_
  refine lv_iload_n hx hb dL_law_1044 rfl (lv_at hl 3 rfl) ?_
  refine lv_iconst (v := 1) hx hb dL_law_1045 (by decide) ?_
  refine lv_iadd hx hb dL_law_1046 ?_
  refine va_sld hx hb hX hbl hbA hsC.2.2 (nI_k (k := 1) hi hL (by decide)) dL_law_1047 ?_
  refine lv_aload_n hx hb dL_law_1048 rfl (lv_at hl 0 rfl) ?_
  refine lv_iload_n hx hb dL_law_1049 rfl (lv_at hl 3 rfl) ?_
  refine lv_iconst (v := 2) hx hb dL_law_1050 (by decide) ?_
  refine lv_iadd hx hb dL_law_1051 ?_
  refine va_sld hx hb hX hbl hbA hsC.2.2 (nI_k (k := 2) hi hL (by decide)) dL_law_1052 ?_
  refine xl_civ (As := [.int (xs (nI i + 1).toNatClampNeg), .int (xs (nI i + 2).toNatClampNeg)]) (rest := []) C hl.1 hKC hsC hA ⟨Nat.le_refl _, Nat.le_refl _⟩ (ctX10_feast l gC _ _ _ _ _ hE1) (cw_L_123 C ⟨Nat.le_of_ble_eq_true rfl, Nat.le_of_ble_eq_true rfl⟩) (hsC.recv hKC 0 (by decide) rfl rfl) rfl rfl (Nat.le_of_ble_eq_true rfl) dL_law_1053 (fun H1 locs1 hsC hk => ?_)
  have hsM := hsM.other (fun i j hi hj e => hap j i hj hi e.symm) hk hsC
  refine lv_aload_n hx hb dL_law_1056 rfl (lv_at hl 2 rfl) ?_
  refine lv_aload_n hx hb dL_law_1057 rfl (lv_at hl 0 rfl) ?_
  refine lv_iload_n hx hb dL_law_1058 rfl (lv_at hl 3 rfl) ?_
  refine lv_iconst (v := 1) hx hb dL_law_1059 (by decide) ?_
  refine lv_iadd hx hb dL_law_1060 ?_
  refine va_sld hx hb hX hbl hbA hsC.2.2 (nI_k (k := 1) hi hL (by decide)) dL_law_1061 ?_
  refine lv_aload_n hx hb dL_law_1062 rfl (lv_at hl 0 rfl) ?_
  refine lv_iload_n hx hb dL_law_1063 rfl (lv_at hl 3 rfl) ?_
  refine lv_iconst (v := 2) hx hb dL_law_1064 (by decide) ?_
  refine lv_iadd hx hb dL_law_1065 ?_
  refine va_sld hx hb hX hbl hbA hsC.2.2 (nI_k (k := 2) hi hL (by decide)) dL_law_1066 ?_
  refine xl_civ (As := [.int (xs (nI i + 1).toNatClampNeg), .int (xs (nI i + 2).toNatClampNeg)]) (rest := [.int r]) C hl.1 hKM hsM hA ⟨Nat.le_refl _, Nat.le_refl _⟩ (ctX11_feast l gM _ _ _ _ _ hE2) (cw_L_126 C ⟨Nat.le_of_ble_eq_true rfl, Nat.le_of_ble_eq_true rfl⟩) (hsM.recv hKM 0 (by decide) rfl rfl) rfl rfl (Nat.le_of_ble_eq_true rfl) dL_law_1067 (fun H2 locs2 hsM hk => ?_)
  have hsC := hsC.other hap hk hsM
  refine lv_icmp_eq (tgt := 1499) hx hb dL_law_1070 (by decide) (fun hc => ?_) (fun hc => ?_)
  · exact kk τ1 σ1 H2 locs2 ls hR1 hsC hsM hl
  · exact absurd rfl hc
set_option maxHeartbeats 4000000 in
set_option maxRecDepth 100000 in
theorem lc_shop {p : Program} {l : Launch} {e : Env} {s : State} {m : MethodId} {below : List Frame} {meth : Method} {c : Code} {b L : Nat} {xs : Nat → Int32} {Q : State → Prop} {gC gM : GG} {Rel : St → St → Prop} (hL : L ≤ 3072) (C0 : lw_At p s m meth c b L xs) (hKC : KS gC s) (hKM : KS gM s) (hap : ∀ i j, i < 52 → j < 25 → gC.2.1 i ≠ gM.2.1 j) (hS : ∀ (τ σ : St), Rel τ σ → ∀ (a1 a2 : Int32) , ∃ (τ' σ' : St) (r : Int32), fX10_shop τ a1 a2 = some (τ', r) ∧ fX11_shop σ a1 a2 = some (σ', r) ∧ Rel τ' σ') {τ σ : St} (hR : Rel τ σ) {H : Heap} {locs : List Loc} (hsC : HW 52 entC gC (fun q : Nat => s.heap.size ≤ q) s.heap H locs τ) (hsM : HW 25 entM gM (fun q : Nat => s.heap.size ≤ q) s.heap H locs σ) {i : Nat} (hi : i + 6 ≤ L) {ls : Array Slot} (hl : lv_has ls 4 [(0, .ref b), (1, .ref (gC.2.1 0)), (2, .ref (gM.2.1 0)), (3, .int (nI i))]) (kk : ∀ (τ σ : St) (H : Heap) (locs : List Loc) (ls : Array Slot), Rel τ σ → HW 52 entC gC (fun q : Nat => s.heap.size ≤ q) s.heap H locs τ → HW 25 entM gM (fun q : Nat => s.heap.size ≤ q) s.heap H locs σ → lv_has ls 4 [(0, .ref b), (1, .ref (gC.2.1 0)), (2, .ref (gM.2.1 0)), (3, .int (nI i))] → W p l e room_1 s m #[Value.ref b] below meth c H locs 600000 7302250 Q (F0 m 1499 ls [])) : W p l e room_1 s m #[Value.ref b] below meth c H locs 600000 7302250 Q (F0 m 1075 ls []) := by
  have C := cf_law C0
  obtain ⟨hx, hb, hr, hml, hown, hts, hX, hbl, hlocks, hgv⟩ := id C0
  have hA : ∀ q : Nat, s.heap.size ≤ q → (fun q : Nat => s.heap.size ≤ q) q := fun _ h => h
  have hbA : ¬ (fun q : Nat => s.heap.size ≤ q) b := Nat.not_le.mpr hbl
  obtain ⟨τ1, σ1, r, hE1, hE2, hR1⟩ := hS τ σ hR (xs (nI i + 1).toNatClampNeg) (xs (nI i + 2).toNatClampNeg)
  refine lv_aload_n hx hb dL_law_1075 rfl (lv_at hl 1 rfl) ?_
  refine lv_aload_n hx hb dL_law_1076 rfl (lv_at hl 0 rfl) ?_
  refine lv_iload_n hx hb dL_law_1077 rfl (lv_at hl 3 rfl) ?_
  refine lv_iconst (v := 1) hx hb dL_law_1078 (by decide) ?_
  refine lv_iadd hx hb dL_law_1079 ?_
  refine va_sld hx hb hX hbl hbA hsC.2.2 (nI_k (k := 1) hi hL (by decide)) dL_law_1080 ?_
  refine lv_aload_n hx hb dL_law_1081 rfl (lv_at hl 0 rfl) ?_
  refine lv_iload_n hx hb dL_law_1082 rfl (lv_at hl 3 rfl) ?_
  refine lv_iconst (v := 2) hx hb dL_law_1083 (by decide) ?_
  refine lv_iadd hx hb dL_law_1084 ?_
  refine va_sld hx hb hX hbl hbA hsC.2.2 (nI_k (k := 2) hi hL (by decide)) dL_law_1085 ?_
  refine xl_civ (As := [.int (xs (nI i + 1).toNatClampNeg), .int (xs (nI i + 2).toNatClampNeg)]) (rest := []) C hl.1 hKC hsC hA ⟨Nat.le_refl _, Nat.le_refl _⟩ (ctX10_shop l gC _ _ _ _ _ hE1) (cw_L_127 C ⟨Nat.le_of_ble_eq_true rfl, Nat.le_of_ble_eq_true rfl⟩) (hsC.recv hKC 0 (by decide) rfl rfl) rfl rfl (Nat.le_of_ble_eq_true rfl) dL_law_1086 (fun H1 locs1 hsC hk => ?_)
  have hsM := hsM.other (fun i j hi hj e => hap j i hj hi e.symm) hk hsC
  refine lv_aload_n hx hb dL_law_1089 rfl (lv_at hl 2 rfl) ?_
  refine lv_aload_n hx hb dL_law_1090 rfl (lv_at hl 0 rfl) ?_
  refine lv_iload_n hx hb dL_law_1091 rfl (lv_at hl 3 rfl) ?_
  refine lv_iconst (v := 1) hx hb dL_law_1092 (by decide) ?_
  refine lv_iadd hx hb dL_law_1093 ?_
  refine va_sld hx hb hX hbl hbA hsC.2.2 (nI_k (k := 1) hi hL (by decide)) dL_law_1094 ?_
  refine lv_aload_n hx hb dL_law_1095 rfl (lv_at hl 0 rfl) ?_
  refine lv_iload_n hx hb dL_law_1096 rfl (lv_at hl 3 rfl) ?_
  refine lv_iconst (v := 2) hx hb dL_law_1097 (by decide) ?_
  refine lv_iadd hx hb dL_law_1098 ?_
  refine va_sld hx hb hX hbl hbA hsC.2.2 (nI_k (k := 2) hi hL (by decide)) dL_law_1099 ?_
  refine xl_civ (As := [.int (xs (nI i + 1).toNatClampNeg), .int (xs (nI i + 2).toNatClampNeg)]) (rest := [.int r]) C hl.1 hKM hsM hA ⟨Nat.le_refl _, Nat.le_refl _⟩ (ctX11_shop l gM _ _ _ _ _ hE2) (cw_L_130 C ⟨Nat.le_of_ble_eq_true rfl, Nat.le_of_ble_eq_true rfl⟩) (hsM.recv hKM 0 (by decide) rfl rfl) rfl rfl (Nat.le_of_ble_eq_true rfl) dL_law_1100 (fun H2 locs2 hsM hk => ?_)
  have hsC := hsC.other hap hk hsM
  refine lv_icmp_eq (tgt := 1499) hx hb dL_law_1103 (by decide) (fun hc => ?_) (fun hc => ?_)
  · exact kk τ1 σ1 H2 locs2 ls hR1 hsC hsM hl
  · exact absurd rfl hc
set_option maxHeartbeats 4000000 in
set_option maxRecDepth 100000 in
theorem lc_best {p : Program} {l : Launch} {e : Env} {s : State} {m : MethodId} {below : List Frame} {meth : Method} {c : Code} {b L : Nat} {xs : Nat → Int32} {Q : State → Prop} {gC gM : GG} {Rel : St → St → Prop} (hL : L ≤ 3072) (C0 : lw_At p s m meth c b L xs) (hKC : KS gC s) (hKM : KS gM s) (hap : ∀ i j, i < 52 → j < 25 → gC.2.1 i ≠ gM.2.1 j) (hS : ∀ (τ σ : St), Rel τ σ → ∀ (a1 : Int32) , ∃ (τ' σ' : St) (r : Int32), fX10_best τ a1 = some (τ', r) ∧ fX11_best σ a1 = some (σ', r) ∧ Rel τ' σ') {τ σ : St} (hR : Rel τ σ) {H : Heap} {locs : List Loc} (hsC : HW 52 entC gC (fun q : Nat => s.heap.size ≤ q) s.heap H locs τ) (hsM : HW 25 entM gM (fun q : Nat => s.heap.size ≤ q) s.heap H locs σ) {i : Nat} (hi : i + 6 ≤ L) {ls : Array Slot} (hl : lv_has ls 4 [(0, .ref b), (1, .ref (gC.2.1 0)), (2, .ref (gM.2.1 0)), (3, .int (nI i))]) (kk : ∀ (τ σ : St) (H : Heap) (locs : List Loc) (ls : Array Slot), Rel τ σ → HW 52 entC gC (fun q : Nat => s.heap.size ≤ q) s.heap H locs τ → HW 25 entM gM (fun q : Nat => s.heap.size ≤ q) s.heap H locs σ → lv_has ls 4 [(0, .ref b), (1, .ref (gC.2.1 0)), (2, .ref (gM.2.1 0)), (3, .int (nI i))] → W p l e room_1 s m #[Value.ref b] below meth c H locs 600000 7302250 Q (F0 m 1499 ls [])) : W p l e room_1 s m #[Value.ref b] below meth c H locs 600000 7302250 Q (F0 m 1108 ls []) := by
  have C := cf_law C0
  obtain ⟨hx, hb, hr, hml, hown, hts, hX, hbl, hlocks, hgv⟩ := id C0
  have hA : ∀ q : Nat, s.heap.size ≤ q → (fun q : Nat => s.heap.size ≤ q) q := fun _ h => h
  have hbA : ¬ (fun q : Nat => s.heap.size ≤ q) b := Nat.not_le.mpr hbl
  obtain ⟨τ1, σ1, r, hE1, hE2, hR1⟩ := hS τ σ hR (xs (nI i + 1).toNatClampNeg)
  refine lv_aload_n hx hb dL_law_1108 rfl (lv_at hl 1 rfl) ?_
  refine lv_aload_n hx hb dL_law_1109 rfl (lv_at hl 0 rfl) ?_
  refine lv_iload_n hx hb dL_law_1110 rfl (lv_at hl 3 rfl) ?_
  refine lv_iconst (v := 1) hx hb dL_law_1111 (by decide) ?_
  refine lv_iadd hx hb dL_law_1112 ?_
  refine va_sld hx hb hX hbl hbA hsC.2.2 (nI_k (k := 1) hi hL (by decide)) dL_law_1113 ?_
  refine xl_civ (As := [.int (xs (nI i + 1).toNatClampNeg)]) (rest := []) C hl.1 hKC hsC hA ⟨Nat.le_refl _, Nat.le_refl _⟩ (ctX10_best l gC _ _ _ _ hE1) (cw_L_131 C ⟨Nat.le_of_ble_eq_true rfl, Nat.le_of_ble_eq_true rfl⟩) (hsC.recv hKC 0 (by decide) rfl rfl) rfl rfl (Nat.le_of_ble_eq_true rfl) dL_law_1114 (fun H1 locs1 hsC hk => ?_)
  have hsM := hsM.other (fun i j hi hj e => hap j i hj hi e.symm) hk hsC
  refine lv_aload_n hx hb dL_law_1117 rfl (lv_at hl 2 rfl) ?_
  refine lv_aload_n hx hb dL_law_1118 rfl (lv_at hl 0 rfl) ?_
  refine lv_iload_n hx hb dL_law_1119 rfl (lv_at hl 3 rfl) ?_
  refine lv_iconst (v := 1) hx hb dL_law_1120 (by decide) ?_
  refine lv_iadd hx hb dL_law_1121 ?_
  refine va_sld hx hb hX hbl hbA hsC.2.2 (nI_k (k := 1) hi hL (by decide)) dL_law_1122 ?_
  refine xl_civ (As := [.int (xs (nI i + 1).toNatClampNeg)]) (rest := [.int r]) C hl.1 hKM hsM hA ⟨Nat.le_refl _, Nat.le_refl _⟩ (ctX11_best l gM _ _ _ _ hE2) (cw_L_134 C ⟨Nat.le_of_ble_eq_true rfl, Nat.le_of_ble_eq_true rfl⟩) (hsM.recv hKM 0 (by decide) rfl rfl) rfl rfl (Nat.le_of_ble_eq_true rfl) dL_law_1123 (fun H2 locs2 hsM hk => ?_)
  have hsC := hsC.other hap hk hsM
  refine lv_icmp_eq (tgt := 1499) hx hb dL_law_1126 (by decide) (fun hc => ?_) (fun hc => ?_)
  · exact kk τ1 σ1 H2 locs2 ls hR1 hsC hsM hl
  · exact absurd rfl hc
set_option maxHeartbeats 4000000 in
set_option maxRecDepth 100000 in
theorem lc_word {p : Program} {l : Launch} {e : Env} {s : State} {m : MethodId} {below : List Frame} {meth : Method} {c : Code} {b L : Nat} {xs : Nat → Int32} {Q : State → Prop} {gC gM : GG} {Rel : St → St → Prop} (hL : L ≤ 3072) (C0 : lw_At p s m meth c b L xs) (hKC : KS gC s) (hKM : KS gM s) (hap : ∀ i j, i < 52 → j < 25 → gC.2.1 i ≠ gM.2.1 j) (hS : ∀ (τ σ : St), Rel τ σ → ∀ (a1 : Int32) , ∃ (τ' σ' : St) (r : Int32), fX10_word τ a1 = some (τ', r) ∧ fX11_word σ a1 = some (σ', r) ∧ Rel τ' σ') {τ σ : St} (hR : Rel τ σ) {H : Heap} {locs : List Loc} (hsC : HW 52 entC gC (fun q : Nat => s.heap.size ≤ q) s.heap H locs τ) (hsM : HW 25 entM gM (fun q : Nat => s.heap.size ≤ q) s.heap H locs σ) {i : Nat} (hi : i + 6 ≤ L) {ls : Array Slot} (hl : lv_has ls 4 [(0, .ref b), (1, .ref (gC.2.1 0)), (2, .ref (gM.2.1 0)), (3, .int (nI i))]) (kk : ∀ (τ σ : St) (H : Heap) (locs : List Loc) (ls : Array Slot), Rel τ σ → HW 52 entC gC (fun q : Nat => s.heap.size ≤ q) s.heap H locs τ → HW 25 entM gM (fun q : Nat => s.heap.size ≤ q) s.heap H locs σ → lv_has ls 4 [(0, .ref b), (1, .ref (gC.2.1 0)), (2, .ref (gM.2.1 0)), (3, .int (nI i))] → W p l e room_1 s m #[Value.ref b] below meth c H locs 600000 7302250 Q (F0 m 1499 ls [])) : W p l e room_1 s m #[Value.ref b] below meth c H locs 600000 7302250 Q (F0 m 1131 ls []) := by
  have C := cf_law C0
  obtain ⟨hx, hb, hr, hml, hown, hts, hX, hbl, hlocks, hgv⟩ := id C0
  have hA : ∀ q : Nat, s.heap.size ≤ q → (fun q : Nat => s.heap.size ≤ q) q := fun _ h => h
  have hbA : ¬ (fun q : Nat => s.heap.size ≤ q) b := Nat.not_le.mpr hbl
  obtain ⟨τ1, σ1, r, hE1, hE2, hR1⟩ := hS τ σ hR (xs (nI i + 1).toNatClampNeg)
  refine lv_aload_n hx hb dL_law_1131 rfl (lv_at hl 1 rfl) ?_
  refine lv_aload_n hx hb dL_law_1132 rfl (lv_at hl 0 rfl) ?_
  refine lv_iload_n hx hb dL_law_1133 rfl (lv_at hl 3 rfl) ?_
  refine lv_iconst (v := 1) hx hb dL_law_1134 (by decide) ?_
  refine lv_iadd hx hb dL_law_1135 ?_
  refine va_sld hx hb hX hbl hbA hsC.2.2 (nI_k (k := 1) hi hL (by decide)) dL_law_1136 ?_
  refine xl_civ (As := [.int (xs (nI i + 1).toNatClampNeg)]) (rest := []) C hl.1 hKC hsC hA ⟨Nat.le_refl _, Nat.le_refl _⟩ (ctX10_word l gC _ _ _ _ hE1) (cw_L_135 C ⟨Nat.le_of_ble_eq_true rfl, Nat.le_of_ble_eq_true rfl⟩) (hsC.recv hKC 0 (by decide) rfl rfl) rfl rfl (Nat.le_of_ble_eq_true rfl) dL_law_1137 (fun H1 locs1 hsC hk => ?_)
  have hsM := hsM.other (fun i j hi hj e => hap j i hj hi e.symm) hk hsC
  refine lv_aload_n hx hb dL_law_1140 rfl (lv_at hl 2 rfl) ?_
  refine lv_aload_n hx hb dL_law_1141 rfl (lv_at hl 0 rfl) ?_
  refine lv_iload_n hx hb dL_law_1142 rfl (lv_at hl 3 rfl) ?_
  refine lv_iconst (v := 1) hx hb dL_law_1143 (by decide) ?_
  refine lv_iadd hx hb dL_law_1144 ?_
  refine va_sld hx hb hX hbl hbA hsC.2.2 (nI_k (k := 1) hi hL (by decide)) dL_law_1145 ?_
  refine xl_civ (As := [.int (xs (nI i + 1).toNatClampNeg)]) (rest := [.int r]) C hl.1 hKM hsM hA ⟨Nat.le_refl _, Nat.le_refl _⟩ (ctX11_word l gM _ _ _ _ hE2) (cw_L_138 C ⟨Nat.le_of_ble_eq_true rfl, Nat.le_of_ble_eq_true rfl⟩) (hsM.recv hKM 0 (by decide) rfl rfl) rfl rfl (Nat.le_of_ble_eq_true rfl) dL_law_1146 (fun H2 locs2 hsM hk => ?_)
  have hsC := hsC.other hap hk hsM
  refine lv_icmp_eq (tgt := 1499) hx hb dL_law_1149 (by decide) (fun hc => ?_) (fun hc => ?_)
  · exact kk τ1 σ1 H2 locs2 ls hR1 hsC hsM hl
  · exact absurd rfl hc
set_option maxHeartbeats 4000000 in
set_option maxRecDepth 100000 in
theorem lc_kinds {p : Program} {l : Launch} {e : Env} {s : State} {m : MethodId} {below : List Frame} {meth : Method} {c : Code} {b L : Nat} {xs : Nat → Int32} {Q : State → Prop} {gC gM : GG} {Rel : St → St → Prop} (hL : L ≤ 3072) (C0 : lw_At p s m meth c b L xs) (hKC : KS gC s) (hKM : KS gM s) (hap : ∀ i j, i < 52 → j < 25 → gC.2.1 i ≠ gM.2.1 j) (hS : ∀ (τ σ : St), Rel τ σ → ∀ (a1 a2 : Int32) , ∃ (τ' σ' : St) (r : Int32), fX10_kinds τ a1 a2 = some (τ', r) ∧ fX11_kinds σ a1 a2 = some (σ', r) ∧ Rel τ' σ') {τ σ : St} (hR : Rel τ σ) {H : Heap} {locs : List Loc} (hsC : HW 52 entC gC (fun q : Nat => s.heap.size ≤ q) s.heap H locs τ) (hsM : HW 25 entM gM (fun q : Nat => s.heap.size ≤ q) s.heap H locs σ) {i : Nat} (hi : i + 6 ≤ L) {ls : Array Slot} (hl : lv_has ls 4 [(0, .ref b), (1, .ref (gC.2.1 0)), (2, .ref (gM.2.1 0)), (3, .int (nI i))]) (kk : ∀ (τ σ : St) (H : Heap) (locs : List Loc) (ls : Array Slot), Rel τ σ → HW 52 entC gC (fun q : Nat => s.heap.size ≤ q) s.heap H locs τ → HW 25 entM gM (fun q : Nat => s.heap.size ≤ q) s.heap H locs σ → lv_has ls 4 [(0, .ref b), (1, .ref (gC.2.1 0)), (2, .ref (gM.2.1 0)), (3, .int (nI i))] → W p l e room_1 s m #[Value.ref b] below meth c H locs 600000 7302250 Q (F0 m 1499 ls [])) : W p l e room_1 s m #[Value.ref b] below meth c H locs 600000 7302250 Q (F0 m 1154 ls []) := by
  have C := cf_law C0
  obtain ⟨hx, hb, hr, hml, hown, hts, hX, hbl, hlocks, hgv⟩ := id C0
  have hA : ∀ q : Nat, s.heap.size ≤ q → (fun q : Nat => s.heap.size ≤ q) q := fun _ h => h
  have hbA : ¬ (fun q : Nat => s.heap.size ≤ q) b := Nat.not_le.mpr hbl
  obtain ⟨τ1, σ1, r, hE1, hE2, hR1⟩ := hS τ σ hR (xs (nI i + 1).toNatClampNeg) (xs (nI i + 2).toNatClampNeg)
  refine lv_aload_n hx hb dL_law_1154 rfl (lv_at hl 1 rfl) ?_
  refine lv_aload_n hx hb dL_law_1155 rfl (lv_at hl 0 rfl) ?_
  refine lv_iload_n hx hb dL_law_1156 rfl (lv_at hl 3 rfl) ?_
  refine lv_iconst (v := 1) hx hb dL_law_1157 (by decide) ?_
  refine lv_iadd hx hb dL_law_1158 ?_
  refine va_sld hx hb hX hbl hbA hsC.2.2 (nI_k (k := 1) hi hL (by decide)) dL_law_1159 ?_
  refine lv_aload_n hx hb dL_law_1160 rfl (lv_at hl 0 rfl) ?_
  refine lv_iload_n hx hb dL_law_1161 rfl (lv_at hl 3 rfl) ?_
  refine lv_iconst (v := 2) hx hb dL_law_1162 (by decide) ?_
  refine lv_iadd hx hb dL_law_1163 ?_
  refine va_sld hx hb hX hbl hbA hsC.2.2 (nI_k (k := 2) hi hL (by decide)) dL_law_1164 ?_
  refine xl_civ (As := [.int (xs (nI i + 1).toNatClampNeg), .int (xs (nI i + 2).toNatClampNeg)]) (rest := []) C hl.1 hKC hsC hA ⟨Nat.le_refl _, Nat.le_refl _⟩ (ctX10_kinds l gC _ _ _ _ _ hE1) (cw_L_139 C ⟨Nat.le_of_ble_eq_true rfl, Nat.le_of_ble_eq_true rfl⟩) (hsC.recv hKC 0 (by decide) rfl rfl) rfl rfl (Nat.le_of_ble_eq_true rfl) dL_law_1165 (fun H1 locs1 hsC hk => ?_)
  have hsM := hsM.other (fun i j hi hj e => hap j i hj hi e.symm) hk hsC
  refine lv_aload_n hx hb dL_law_1168 rfl (lv_at hl 2 rfl) ?_
  refine lv_aload_n hx hb dL_law_1169 rfl (lv_at hl 0 rfl) ?_
  refine lv_iload_n hx hb dL_law_1170 rfl (lv_at hl 3 rfl) ?_
  refine lv_iconst (v := 1) hx hb dL_law_1171 (by decide) ?_
  refine lv_iadd hx hb dL_law_1172 ?_
  refine va_sld hx hb hX hbl hbA hsC.2.2 (nI_k (k := 1) hi hL (by decide)) dL_law_1173 ?_
  refine lv_aload_n hx hb dL_law_1174 rfl (lv_at hl 0 rfl) ?_
  refine lv_iload_n hx hb dL_law_1175 rfl (lv_at hl 3 rfl) ?_
  refine lv_iconst (v := 2) hx hb dL_law_1176 (by decide) ?_
  refine lv_iadd hx hb dL_law_1177 ?_
  refine va_sld hx hb hX hbl hbA hsC.2.2 (nI_k (k := 2) hi hL (by decide)) dL_law_1178 ?_
  refine xl_civ (As := [.int (xs (nI i + 1).toNatClampNeg), .int (xs (nI i + 2).toNatClampNeg)]) (rest := [.int r]) C hl.1 hKM hsM hA ⟨Nat.le_refl _, Nat.le_refl _⟩ (ctX11_kinds l gM _ _ _ _ _ hE2) (cw_L_142 C ⟨Nat.le_of_ble_eq_true rfl, Nat.le_of_ble_eq_true rfl⟩) (hsM.recv hKM 0 (by decide) rfl rfl) rfl rfl (Nat.le_of_ble_eq_true rfl) dL_law_1179 (fun H2 locs2 hsM hk => ?_)
  have hsC := hsC.other hap hk hsM
  refine lv_icmp_eq (tgt := 1499) hx hb dL_law_1182 (by decide) (fun hc => ?_) (fun hc => ?_)
  · exact kk τ1 σ1 H2 locs2 ls hR1 hsC hsM hl
  · exact absurd rfl hc
set_option maxHeartbeats 4000000 in
set_option maxRecDepth 100000 in
theorem lc_monthly {p : Program} {l : Launch} {e : Env} {s : State} {m : MethodId} {below : List Frame} {meth : Method} {c : Code} {b L : Nat} {xs : Nat → Int32} {Q : State → Prop} {gC gM : GG} {Rel : St → St → Prop} (hL : L ≤ 3072) (C0 : lw_At p s m meth c b L xs) (hKC : KS gC s) (hKM : KS gM s) (hap : ∀ i j, i < 52 → j < 25 → gC.2.1 i ≠ gM.2.1 j) (hS : ∀ (τ σ : St), Rel τ σ → ∀ (a1 a2 : Int32) , ∃ (τ' σ' : St) (r : Int32), fX10_monthly τ a1 a2 = some (τ', r) ∧ fX11_monthly σ a1 a2 = some (σ', r) ∧ Rel τ' σ') {τ σ : St} (hR : Rel τ σ) {H : Heap} {locs : List Loc} (hsC : HW 52 entC gC (fun q : Nat => s.heap.size ≤ q) s.heap H locs τ) (hsM : HW 25 entM gM (fun q : Nat => s.heap.size ≤ q) s.heap H locs σ) {i : Nat} (hi : i + 6 ≤ L) {ls : Array Slot} (hl : lv_has ls 4 [(0, .ref b), (1, .ref (gC.2.1 0)), (2, .ref (gM.2.1 0)), (3, .int (nI i))]) (kk : ∀ (τ σ : St) (H : Heap) (locs : List Loc) (ls : Array Slot), Rel τ σ → HW 52 entC gC (fun q : Nat => s.heap.size ≤ q) s.heap H locs τ → HW 25 entM gM (fun q : Nat => s.heap.size ≤ q) s.heap H locs σ → lv_has ls 4 [(0, .ref b), (1, .ref (gC.2.1 0)), (2, .ref (gM.2.1 0)), (3, .int (nI i))] → W p l e room_1 s m #[Value.ref b] below meth c H locs 600000 7302250 Q (F0 m 1499 ls [])) : W p l e room_1 s m #[Value.ref b] below meth c H locs 600000 7302250 Q (F0 m 1187 ls []) := by
  have C := cf_law C0
  obtain ⟨hx, hb, hr, hml, hown, hts, hX, hbl, hlocks, hgv⟩ := id C0
  have hA : ∀ q : Nat, s.heap.size ≤ q → (fun q : Nat => s.heap.size ≤ q) q := fun _ h => h
  have hbA : ¬ (fun q : Nat => s.heap.size ≤ q) b := Nat.not_le.mpr hbl
  obtain ⟨τ1, σ1, r, hE1, hE2, hR1⟩ := hS τ σ hR (xs (nI i + 1).toNatClampNeg) (xs (nI i + 2).toNatClampNeg)
  refine lv_aload_n hx hb dL_law_1187 rfl (lv_at hl 1 rfl) ?_
  refine lv_aload_n hx hb dL_law_1188 rfl (lv_at hl 0 rfl) ?_
  refine lv_iload_n hx hb dL_law_1189 rfl (lv_at hl 3 rfl) ?_
  refine lv_iconst (v := 1) hx hb dL_law_1190 (by decide) ?_
  refine lv_iadd hx hb dL_law_1191 ?_
  refine va_sld hx hb hX hbl hbA hsC.2.2 (nI_k (k := 1) hi hL (by decide)) dL_law_1192 ?_
  refine lv_aload_n hx hb dL_law_1193 rfl (lv_at hl 0 rfl) ?_
  refine lv_iload_n hx hb dL_law_1194 rfl (lv_at hl 3 rfl) ?_
  refine lv_iconst (v := 2) hx hb dL_law_1195 (by decide) ?_
  refine lv_iadd hx hb dL_law_1196 ?_
  refine va_sld hx hb hX hbl hbA hsC.2.2 (nI_k (k := 2) hi hL (by decide)) dL_law_1197 ?_
  refine xl_civ (As := [.int (xs (nI i + 1).toNatClampNeg), .int (xs (nI i + 2).toNatClampNeg)]) (rest := []) C hl.1 hKC hsC hA ⟨Nat.le_refl _, Nat.le_refl _⟩ (ctX10_monthly l gC _ _ _ _ _ hE1) (cw_L_143 C ⟨Nat.le_of_ble_eq_true rfl, Nat.le_of_ble_eq_true rfl⟩) (hsC.recv hKC 0 (by decide) rfl rfl) rfl rfl (Nat.le_of_ble_eq_true rfl) dL_law_1198 (fun H1 locs1 hsC hk => ?_)
  have hsM := hsM.other (fun i j hi hj e => hap j i hj hi e.symm) hk hsC
  refine lv_aload_n hx hb dL_law_1201 rfl (lv_at hl 2 rfl) ?_
  refine lv_aload_n hx hb dL_law_1202 rfl (lv_at hl 0 rfl) ?_
  refine lv_iload_n hx hb dL_law_1203 rfl (lv_at hl 3 rfl) ?_
  refine lv_iconst (v := 1) hx hb dL_law_1204 (by decide) ?_
  refine lv_iadd hx hb dL_law_1205 ?_
  refine va_sld hx hb hX hbl hbA hsC.2.2 (nI_k (k := 1) hi hL (by decide)) dL_law_1206 ?_
  refine lv_aload_n hx hb dL_law_1207 rfl (lv_at hl 0 rfl) ?_
  refine lv_iload_n hx hb dL_law_1208 rfl (lv_at hl 3 rfl) ?_
  refine lv_iconst (v := 2) hx hb dL_law_1209 (by decide) ?_
  refine lv_iadd hx hb dL_law_1210 ?_
  refine va_sld hx hb hX hbl hbA hsC.2.2 (nI_k (k := 2) hi hL (by decide)) dL_law_1211 ?_
  refine xl_civ (As := [.int (xs (nI i + 1).toNatClampNeg), .int (xs (nI i + 2).toNatClampNeg)]) (rest := [.int r]) C hl.1 hKM hsM hA ⟨Nat.le_refl _, Nat.le_refl _⟩ (ctX11_monthly l gM _ _ _ _ _ hE2) (cw_L_146 C ⟨Nat.le_of_ble_eq_true rfl, Nat.le_of_ble_eq_true rfl⟩) (hsM.recv hKM 0 (by decide) rfl rfl) rfl rfl (Nat.le_of_ble_eq_true rfl) dL_law_1212 (fun H2 locs2 hsM hk => ?_)
  have hsC := hsC.other hap hk hsM
  refine lv_icmp_eq (tgt := 1499) hx hb dL_law_1215 (by decide) (fun hc => ?_) (fun hc => ?_)
  · exact kk τ1 σ1 H2 locs2 ls hR1 hsC hsM hl
  · exact absurd rfl hc
set_option maxHeartbeats 4000000 in
set_option maxRecDepth 100000 in
theorem lc_test {p : Program} {l : Launch} {e : Env} {s : State} {m : MethodId} {below : List Frame} {meth : Method} {c : Code} {b L : Nat} {xs : Nat → Int32} {Q : State → Prop} {gC gM : GG} {Rel : St → St → Prop} (hL : L ≤ 3072) (C0 : lw_At p s m meth c b L xs) (hKC : KS gC s) (hKM : KS gM s) (hap : ∀ i j, i < 52 → j < 25 → gC.2.1 i ≠ gM.2.1 j) (hS : ∀ (τ σ : St), Rel τ σ → ∀ (a1 a2 : Int32) , ∃ (τ' σ' : St) (r : Int32), fX10_test τ a1 a2 = some (τ', r) ∧ fX11_test σ a1 a2 = some (σ', r) ∧ Rel τ' σ') {τ σ : St} (hR : Rel τ σ) {H : Heap} {locs : List Loc} (hsC : HW 52 entC gC (fun q : Nat => s.heap.size ≤ q) s.heap H locs τ) (hsM : HW 25 entM gM (fun q : Nat => s.heap.size ≤ q) s.heap H locs σ) {i : Nat} (hi : i + 6 ≤ L) {ls : Array Slot} (hl : lv_has ls 4 [(0, .ref b), (1, .ref (gC.2.1 0)), (2, .ref (gM.2.1 0)), (3, .int (nI i))]) (kk : ∀ (τ σ : St) (H : Heap) (locs : List Loc) (ls : Array Slot), Rel τ σ → HW 52 entC gC (fun q : Nat => s.heap.size ≤ q) s.heap H locs τ → HW 25 entM gM (fun q : Nat => s.heap.size ≤ q) s.heap H locs σ → lv_has ls 4 [(0, .ref b), (1, .ref (gC.2.1 0)), (2, .ref (gM.2.1 0)), (3, .int (nI i))] → W p l e room_1 s m #[Value.ref b] below meth c H locs 600000 7302250 Q (F0 m 1499 ls [])) : W p l e room_1 s m #[Value.ref b] below meth c H locs 600000 7302250 Q (F0 m 1220 ls []) := by
  have C := cf_law C0
  obtain ⟨hx, hb, hr, hml, hown, hts, hX, hbl, hlocks, hgv⟩ := id C0
  have hA : ∀ q : Nat, s.heap.size ≤ q → (fun q : Nat => s.heap.size ≤ q) q := fun _ h => h
  have hbA : ¬ (fun q : Nat => s.heap.size ≤ q) b := Nat.not_le.mpr hbl
  obtain ⟨τ1, σ1, r, hE1, hE2, hR1⟩ := hS τ σ hR (xs (nI i + 1).toNatClampNeg) (xs (nI i + 2).toNatClampNeg)
  refine lv_aload_n hx hb dL_law_1220 rfl (lv_at hl 1 rfl) ?_
  refine lv_aload_n hx hb dL_law_1221 rfl (lv_at hl 0 rfl) ?_
  refine lv_iload_n hx hb dL_law_1222 rfl (lv_at hl 3 rfl) ?_
  refine lv_iconst (v := 1) hx hb dL_law_1223 (by decide) ?_
  refine lv_iadd hx hb dL_law_1224 ?_
  refine va_sld hx hb hX hbl hbA hsC.2.2 (nI_k (k := 1) hi hL (by decide)) dL_law_1225 ?_
  refine lv_aload_n hx hb dL_law_1226 rfl (lv_at hl 0 rfl) ?_
  refine lv_iload_n hx hb dL_law_1227 rfl (lv_at hl 3 rfl) ?_
  refine lv_iconst (v := 2) hx hb dL_law_1228 (by decide) ?_
  refine lv_iadd hx hb dL_law_1229 ?_
  refine va_sld hx hb hX hbl hbA hsC.2.2 (nI_k (k := 2) hi hL (by decide)) dL_law_1230 ?_
  refine xl_civ (As := [.int (xs (nI i + 1).toNatClampNeg), .int (xs (nI i + 2).toNatClampNeg)]) (rest := []) C hl.1 hKC hsC hA ⟨Nat.le_refl _, Nat.le_refl _⟩ (ctX10_test l gC _ _ _ _ _ hE1) (cw_L_147 C ⟨Nat.le_of_ble_eq_true rfl, Nat.le_of_ble_eq_true rfl⟩) (hsC.recv hKC 0 (by decide) rfl rfl) rfl rfl (Nat.le_of_ble_eq_true rfl) dL_law_1231 (fun H1 locs1 hsC hk => ?_)
  have hsM := hsM.other (fun i j hi hj e => hap j i hj hi e.symm) hk hsC
  refine lv_aload_n hx hb dL_law_1234 rfl (lv_at hl 2 rfl) ?_
  refine lv_aload_n hx hb dL_law_1235 rfl (lv_at hl 0 rfl) ?_
  refine lv_iload_n hx hb dL_law_1236 rfl (lv_at hl 3 rfl) ?_
  refine lv_iconst (v := 1) hx hb dL_law_1237 (by decide) ?_
  refine lv_iadd hx hb dL_law_1238 ?_
  refine va_sld hx hb hX hbl hbA hsC.2.2 (nI_k (k := 1) hi hL (by decide)) dL_law_1239 ?_
  refine lv_aload_n hx hb dL_law_1240 rfl (lv_at hl 0 rfl) ?_
  refine lv_iload_n hx hb dL_law_1241 rfl (lv_at hl 3 rfl) ?_
  refine lv_iconst (v := 2) hx hb dL_law_1242 (by decide) ?_
  refine lv_iadd hx hb dL_law_1243 ?_
  refine va_sld hx hb hX hbl hbA hsC.2.2 (nI_k (k := 2) hi hL (by decide)) dL_law_1244 ?_
  refine xl_civ (As := [.int (xs (nI i + 1).toNatClampNeg), .int (xs (nI i + 2).toNatClampNeg)]) (rest := [.int r]) C hl.1 hKM hsM hA ⟨Nat.le_refl _, Nat.le_refl _⟩ (ctX11_test l gM _ _ _ _ _ hE2) (cw_L_150 C ⟨Nat.le_of_ble_eq_true rfl, Nat.le_of_ble_eq_true rfl⟩) (hsM.recv hKM 0 (by decide) rfl rfl) rfl rfl (Nat.le_of_ble_eq_true rfl) dL_law_1245 (fun H2 locs2 hsM hk => ?_)
  have hsC := hsC.other hap hk hsM
  refine lv_icmp_eq (tgt := 1499) hx hb dL_law_1248 (by decide) (fun hc => ?_) (fun hc => ?_)
  · exact kk τ1 σ1 H2 locs2 ls hR1 hsC hsM hl
  · exact absurd rfl hc
set_option maxHeartbeats 4000000 in
set_option maxRecDepth 100000 in
theorem lc_duel {p : Program} {l : Launch} {e : Env} {s : State} {m : MethodId} {below : List Frame} {meth : Method} {c : Code} {b L : Nat} {xs : Nat → Int32} {Q : State → Prop} {gC gM : GG} {Rel : St → St → Prop} (hL : L ≤ 3072) (C0 : lw_At p s m meth c b L xs) (hKC : KS gC s) (hKM : KS gM s) (hap : ∀ i j, i < 52 → j < 25 → gC.2.1 i ≠ gM.2.1 j) (hS : ∀ (τ σ : St), Rel τ σ → ∀ (a1 : Int32) , ∃ (τ' σ' : St) (r : Int32), fX10_duel τ a1 = some (τ', r) ∧ fX11_duel σ a1 = some (σ', r) ∧ Rel τ' σ') {τ σ : St} (hR : Rel τ σ) {H : Heap} {locs : List Loc} (hsC : HW 52 entC gC (fun q : Nat => s.heap.size ≤ q) s.heap H locs τ) (hsM : HW 25 entM gM (fun q : Nat => s.heap.size ≤ q) s.heap H locs σ) {i : Nat} (hi : i + 6 ≤ L) {ls : Array Slot} (hl : lv_has ls 4 [(0, .ref b), (1, .ref (gC.2.1 0)), (2, .ref (gM.2.1 0)), (3, .int (nI i))]) (kk : ∀ (τ σ : St) (H : Heap) (locs : List Loc) (ls : Array Slot), Rel τ σ → HW 52 entC gC (fun q : Nat => s.heap.size ≤ q) s.heap H locs τ → HW 25 entM gM (fun q : Nat => s.heap.size ≤ q) s.heap H locs σ → lv_has ls 4 [(0, .ref b), (1, .ref (gC.2.1 0)), (2, .ref (gM.2.1 0)), (3, .int (nI i))] → W p l e room_1 s m #[Value.ref b] below meth c H locs 600000 7302250 Q (F0 m 1499 ls [])) : W p l e room_1 s m #[Value.ref b] below meth c H locs 600000 7302250 Q (F0 m 1253 ls []) := by
  have C := cf_law C0
  obtain ⟨hx, hb, hr, hml, hown, hts, hX, hbl, hlocks, hgv⟩ := id C0
  have hA : ∀ q : Nat, s.heap.size ≤ q → (fun q : Nat => s.heap.size ≤ q) q := fun _ h => h
  have hbA : ¬ (fun q : Nat => s.heap.size ≤ q) b := Nat.not_le.mpr hbl
  obtain ⟨τ1, σ1, r, hE1, hE2, hR1⟩ := hS τ σ hR (xs (nI i + 1).toNatClampNeg)
  refine lv_aload_n hx hb dL_law_1253 rfl (lv_at hl 1 rfl) ?_
  refine lv_aload_n hx hb dL_law_1254 rfl (lv_at hl 0 rfl) ?_
  refine lv_iload_n hx hb dL_law_1255 rfl (lv_at hl 3 rfl) ?_
  refine lv_iconst (v := 1) hx hb dL_law_1256 (by decide) ?_
  refine lv_iadd hx hb dL_law_1257 ?_
  refine va_sld hx hb hX hbl hbA hsC.2.2 (nI_k (k := 1) hi hL (by decide)) dL_law_1258 ?_
  refine xl_civ (As := [.int (xs (nI i + 1).toNatClampNeg)]) (rest := []) C hl.1 hKC hsC hA ⟨Nat.le_refl _, Nat.le_refl _⟩ (ctX10_duel l gC _ _ _ _ hE1) (cw_L_151 C ⟨Nat.le_of_ble_eq_true rfl, Nat.le_of_ble_eq_true rfl⟩) (hsC.recv hKC 0 (by decide) rfl rfl) rfl rfl (Nat.le_of_ble_eq_true rfl) dL_law_1259 (fun H1 locs1 hsC hk => ?_)
  have hsM := hsM.other (fun i j hi hj e => hap j i hj hi e.symm) hk hsC
  refine lv_aload_n hx hb dL_law_1262 rfl (lv_at hl 2 rfl) ?_
  refine lv_aload_n hx hb dL_law_1263 rfl (lv_at hl 0 rfl) ?_
  refine lv_iload_n hx hb dL_law_1264 rfl (lv_at hl 3 rfl) ?_
  refine lv_iconst (v := 1) hx hb dL_law_1265 (by decide) ?_
  refine lv_iadd hx hb dL_law_1266 ?_
  refine va_sld hx hb hX hbl hbA hsC.2.2 (nI_k (k := 1) hi hL (by decide)) dL_law_1267 ?_
  refine xl_civ (As := [.int (xs (nI i + 1).toNatClampNeg)]) (rest := [.int r]) C hl.1 hKM hsM hA ⟨Nat.le_refl _, Nat.le_refl _⟩ (ctX11_duel l gM _ _ _ _ hE2) (cw_L_154 C ⟨Nat.le_of_ble_eq_true rfl, Nat.le_of_ble_eq_true rfl⟩) (hsM.recv hKM 0 (by decide) rfl rfl) rfl rfl (Nat.le_of_ble_eq_true rfl) dL_law_1268 (fun H2 locs2 hsM hk => ?_)
  have hsC := hsC.other hap hk hsM
  refine lv_icmp_eq (tgt := 1499) hx hb dL_law_1271 (by decide) (fun hc => ?_) (fun hc => ?_)
  · exact kk τ1 σ1 H2 locs2 ls hR1 hsC hsM hl
  · exact absurd rfl hc
set_option maxHeartbeats 4000000 in
set_option maxRecDepth 100000 in
theorem lc_odds {p : Program} {l : Launch} {e : Env} {s : State} {m : MethodId} {below : List Frame} {meth : Method} {c : Code} {b L : Nat} {xs : Nat → Int32} {Q : State → Prop} {gC gM : GG} {Rel : St → St → Prop} (hL : L ≤ 3072) (C0 : lw_At p s m meth c b L xs) (hKC : KS gC s) (hKM : KS gM s) (hap : ∀ i j, i < 52 → j < 25 → gC.2.1 i ≠ gM.2.1 j) (hS : ∀ (τ σ : St), Rel τ σ → ∀ (a1 a2 a3 : Int32) , ∃ (τ' σ' : St) (r : Int32), fX10_odds τ a1 a2 a3 = some (τ', r) ∧ fX11_odds σ a1 a2 a3 = some (σ', r) ∧ Rel τ' σ') {τ σ : St} (hR : Rel τ σ) {H : Heap} {locs : List Loc} (hsC : HW 52 entC gC (fun q : Nat => s.heap.size ≤ q) s.heap H locs τ) (hsM : HW 25 entM gM (fun q : Nat => s.heap.size ≤ q) s.heap H locs σ) {i : Nat} (hi : i + 6 ≤ L) {ls : Array Slot} (hl : lv_has ls 4 [(0, .ref b), (1, .ref (gC.2.1 0)), (2, .ref (gM.2.1 0)), (3, .int (nI i))]) (kk : ∀ (τ σ : St) (H : Heap) (locs : List Loc) (ls : Array Slot), Rel τ σ → HW 52 entC gC (fun q : Nat => s.heap.size ≤ q) s.heap H locs τ → HW 25 entM gM (fun q : Nat => s.heap.size ≤ q) s.heap H locs σ → lv_has ls 4 [(0, .ref b), (1, .ref (gC.2.1 0)), (2, .ref (gM.2.1 0)), (3, .int (nI i))] → W p l e room_1 s m #[Value.ref b] below meth c H locs 600000 7302250 Q (F0 m 1499 ls [])) : W p l e room_1 s m #[Value.ref b] below meth c H locs 600000 7302250 Q (F0 m 1276 ls []) := by
  have C := cf_law C0
  obtain ⟨hx, hb, hr, hml, hown, hts, hX, hbl, hlocks, hgv⟩ := id C0
  have hA : ∀ q : Nat, s.heap.size ≤ q → (fun q : Nat => s.heap.size ≤ q) q := fun _ h => h
  have hbA : ¬ (fun q : Nat => s.heap.size ≤ q) b := Nat.not_le.mpr hbl
  obtain ⟨τ1, σ1, r, hE1, hE2, hR1⟩ := hS τ σ hR (xs (nI i + 1).toNatClampNeg) (xs (nI i + 2).toNatClampNeg) (xs (nI i + 3).toNatClampNeg)
  refine lv_aload_n hx hb dL_law_1276 rfl (lv_at hl 1 rfl) ?_
  refine lv_aload_n hx hb dL_law_1277 rfl (lv_at hl 0 rfl) ?_
  refine lv_iload_n hx hb dL_law_1278 rfl (lv_at hl 3 rfl) ?_
  refine lv_iconst (v := 1) hx hb dL_law_1279 (by decide) ?_
  refine lv_iadd hx hb dL_law_1280 ?_
  refine va_sld hx hb hX hbl hbA hsC.2.2 (nI_k (k := 1) hi hL (by decide)) dL_law_1281 ?_
  refine lv_aload_n hx hb dL_law_1282 rfl (lv_at hl 0 rfl) ?_
  refine lv_iload_n hx hb dL_law_1283 rfl (lv_at hl 3 rfl) ?_
  refine lv_iconst (v := 2) hx hb dL_law_1284 (by decide) ?_
  refine lv_iadd hx hb dL_law_1285 ?_
  refine va_sld hx hb hX hbl hbA hsC.2.2 (nI_k (k := 2) hi hL (by decide)) dL_law_1286 ?_
  refine lv_aload_n hx hb dL_law_1287 rfl (lv_at hl 0 rfl) ?_
  refine lv_iload_n hx hb dL_law_1288 rfl (lv_at hl 3 rfl) ?_
  refine lv_iconst (v := 3) hx hb dL_law_1289 (by decide) ?_
  refine lv_iadd hx hb dL_law_1290 ?_
  refine va_sld hx hb hX hbl hbA hsC.2.2 (nI_k (k := 3) hi hL (by decide)) dL_law_1291 ?_
  refine xl_civ (As := [.int (xs (nI i + 1).toNatClampNeg), .int (xs (nI i + 2).toNatClampNeg), .int (xs (nI i + 3).toNatClampNeg)]) (rest := []) C hl.1 hKC hsC hA ⟨Nat.le_refl _, Nat.le_refl _⟩ (ctX10_odds l gC _ _ _ _ _ _ hE1) (cw_L_155 C ⟨Nat.le_of_ble_eq_true rfl, Nat.le_of_ble_eq_true rfl⟩) (hsC.recv hKC 0 (by decide) rfl rfl) rfl rfl (Nat.le_of_ble_eq_true rfl) dL_law_1292 (fun H1 locs1 hsC hk => ?_)
  have hsM := hsM.other (fun i j hi hj e => hap j i hj hi e.symm) hk hsC
  refine lv_aload_n hx hb dL_law_1295 rfl (lv_at hl 2 rfl) ?_
  refine lv_aload_n hx hb dL_law_1296 rfl (lv_at hl 0 rfl) ?_
  refine lv_iload_n hx hb dL_law_1297 rfl (lv_at hl 3 rfl) ?_
  refine lv_iconst (v := 1) hx hb dL_law_1298 (by decide) ?_
  refine lv_iadd hx hb dL_law_1299 ?_
  refine va_sld hx hb hX hbl hbA hsC.2.2 (nI_k (k := 1) hi hL (by decide)) dL_law_1300 ?_
  refine lv_aload_n hx hb dL_law_1301 rfl (lv_at hl 0 rfl) ?_
  refine lv_iload_n hx hb dL_law_1302 rfl (lv_at hl 3 rfl) ?_
  refine lv_iconst (v := 2) hx hb dL_law_1303 (by decide) ?_
  refine lv_iadd hx hb dL_law_1304 ?_
  refine va_sld hx hb hX hbl hbA hsC.2.2 (nI_k (k := 2) hi hL (by decide)) dL_law_1305 ?_
  refine lv_aload_n hx hb dL_law_1306 rfl (lv_at hl 0 rfl) ?_
  refine lv_iload_n hx hb dL_law_1307 rfl (lv_at hl 3 rfl) ?_
  refine lv_iconst (v := 3) hx hb dL_law_1308 (by decide) ?_
  refine lv_iadd hx hb dL_law_1309 ?_
  refine va_sld hx hb hX hbl hbA hsC.2.2 (nI_k (k := 3) hi hL (by decide)) dL_law_1310 ?_
  refine xl_civ (As := [.int (xs (nI i + 1).toNatClampNeg), .int (xs (nI i + 2).toNatClampNeg), .int (xs (nI i + 3).toNatClampNeg)]) (rest := [.int r]) C hl.1 hKM hsM hA ⟨Nat.le_refl _, Nat.le_refl _⟩ (ctX11_odds l gM _ _ _ _ _ _ hE2) (cw_L_158 C ⟨Nat.le_of_ble_eq_true rfl, Nat.le_of_ble_eq_true rfl⟩) (hsM.recv hKM 0 (by decide) rfl rfl) rfl rfl (Nat.le_of_ble_eq_true rfl) dL_law_1311 (fun H2 locs2 hsM hk => ?_)
  have hsC := hsC.other hap hk hsM
  refine lv_icmp_eq (tgt := 1499) hx hb dL_law_1314 (by decide) (fun hc => ?_) (fun hc => ?_)
  · exact kk τ1 σ1 H2 locs2 ls hR1 hsC hsM hl
  · exact absurd rfl hc
set_option maxHeartbeats 4000000 in
set_option maxRecDepth 100000 in
theorem lc_mid {p : Program} {l : Launch} {e : Env} {s : State} {m : MethodId} {below : List Frame} {meth : Method} {c : Code} {b L : Nat} {xs : Nat → Int32} {Q : State → Prop} {gC gM : GG} {Rel : St → St → Prop} (hL : L ≤ 3072) (C0 : lw_At p s m meth c b L xs) (hKC : KS gC s) (hKM : KS gM s) (hap : ∀ i j, i < 52 → j < 25 → gC.2.1 i ≠ gM.2.1 j) (hS : ∀ (τ σ : St), Rel τ σ → ∀ (a1 a2 : Int32) , ∃ (τ' σ' : St) (r : Int32), fX10_mid τ a1 a2 = some (τ', r) ∧ fX11_mid σ a1 a2 = some (σ', r) ∧ Rel τ' σ') {τ σ : St} (hR : Rel τ σ) {H : Heap} {locs : List Loc} (hsC : HW 52 entC gC (fun q : Nat => s.heap.size ≤ q) s.heap H locs τ) (hsM : HW 25 entM gM (fun q : Nat => s.heap.size ≤ q) s.heap H locs σ) {i : Nat} (hi : i + 6 ≤ L) {ls : Array Slot} (hl : lv_has ls 4 [(0, .ref b), (1, .ref (gC.2.1 0)), (2, .ref (gM.2.1 0)), (3, .int (nI i))]) (kk : ∀ (τ σ : St) (H : Heap) (locs : List Loc) (ls : Array Slot), Rel τ σ → HW 52 entC gC (fun q : Nat => s.heap.size ≤ q) s.heap H locs τ → HW 25 entM gM (fun q : Nat => s.heap.size ≤ q) s.heap H locs σ → lv_has ls 4 [(0, .ref b), (1, .ref (gC.2.1 0)), (2, .ref (gM.2.1 0)), (3, .int (nI i))] → W p l e room_1 s m #[Value.ref b] below meth c H locs 600000 7302250 Q (F0 m 1499 ls [])) : W p l e room_1 s m #[Value.ref b] below meth c H locs 600000 7302250 Q (F0 m 1319 ls []) := by
  have C := cf_law C0
  obtain ⟨hx, hb, hr, hml, hown, hts, hX, hbl, hlocks, hgv⟩ := id C0
  have hA : ∀ q : Nat, s.heap.size ≤ q → (fun q : Nat => s.heap.size ≤ q) q := fun _ h => h
  have hbA : ¬ (fun q : Nat => s.heap.size ≤ q) b := Nat.not_le.mpr hbl
  obtain ⟨τ1, σ1, r, hE1, hE2, hR1⟩ := hS τ σ hR (xs (nI i + 1).toNatClampNeg) (xs (nI i + 2).toNatClampNeg)
  refine lv_aload_n hx hb dL_law_1319 rfl (lv_at hl 1 rfl) ?_
  refine lv_aload_n hx hb dL_law_1320 rfl (lv_at hl 0 rfl) ?_
  refine lv_iload_n hx hb dL_law_1321 rfl (lv_at hl 3 rfl) ?_
  refine lv_iconst (v := 1) hx hb dL_law_1322 (by decide) ?_
  refine lv_iadd hx hb dL_law_1323 ?_
  refine va_sld hx hb hX hbl hbA hsC.2.2 (nI_k (k := 1) hi hL (by decide)) dL_law_1324 ?_
  refine lv_aload_n hx hb dL_law_1325 rfl (lv_at hl 0 rfl) ?_
  refine lv_iload_n hx hb dL_law_1326 rfl (lv_at hl 3 rfl) ?_
  refine lv_iconst (v := 2) hx hb dL_law_1327 (by decide) ?_
  refine lv_iadd hx hb dL_law_1328 ?_
  refine va_sld hx hb hX hbl hbA hsC.2.2 (nI_k (k := 2) hi hL (by decide)) dL_law_1329 ?_
  refine xl_civ (As := [.int (xs (nI i + 1).toNatClampNeg), .int (xs (nI i + 2).toNatClampNeg)]) (rest := []) C hl.1 hKC hsC hA ⟨Nat.le_refl _, Nat.le_refl _⟩ (ctX10_mid l gC _ _ _ _ _ hE1) (cw_L_159 C ⟨Nat.le_of_ble_eq_true rfl, Nat.le_of_ble_eq_true rfl⟩) (hsC.recv hKC 0 (by decide) rfl rfl) rfl rfl (Nat.le_of_ble_eq_true rfl) dL_law_1330 (fun H1 locs1 hsC hk => ?_)
  have hsM := hsM.other (fun i j hi hj e => hap j i hj hi e.symm) hk hsC
  refine lv_aload_n hx hb dL_law_1333 rfl (lv_at hl 2 rfl) ?_
  refine lv_aload_n hx hb dL_law_1334 rfl (lv_at hl 0 rfl) ?_
  refine lv_iload_n hx hb dL_law_1335 rfl (lv_at hl 3 rfl) ?_
  refine lv_iconst (v := 1) hx hb dL_law_1336 (by decide) ?_
  refine lv_iadd hx hb dL_law_1337 ?_
  refine va_sld hx hb hX hbl hbA hsC.2.2 (nI_k (k := 1) hi hL (by decide)) dL_law_1338 ?_
  refine lv_aload_n hx hb dL_law_1339 rfl (lv_at hl 0 rfl) ?_
  refine lv_iload_n hx hb dL_law_1340 rfl (lv_at hl 3 rfl) ?_
  refine lv_iconst (v := 2) hx hb dL_law_1341 (by decide) ?_
  refine lv_iadd hx hb dL_law_1342 ?_
  refine va_sld hx hb hX hbl hbA hsC.2.2 (nI_k (k := 2) hi hL (by decide)) dL_law_1343 ?_
  refine xl_civ (As := [.int (xs (nI i + 1).toNatClampNeg), .int (xs (nI i + 2).toNatClampNeg)]) (rest := [.int r]) C hl.1 hKM hsM hA ⟨Nat.le_refl _, Nat.le_refl _⟩ (ctX11_mid l gM _ _ _ _ _ hE2) (cw_L_162 C ⟨Nat.le_of_ble_eq_true rfl, Nat.le_of_ble_eq_true rfl⟩) (hsM.recv hKM 0 (by decide) rfl rfl) rfl rfl (Nat.le_of_ble_eq_true rfl) dL_law_1344 (fun H2 locs2 hsM hk => ?_)
  have hsC := hsC.other hap hk hsM
  refine lv_icmp_eq (tgt := 1499) hx hb dL_law_1347 (by decide) (fun hc => ?_) (fun hc => ?_)
  · exact kk τ1 σ1 H2 locs2 ls hR1 hsC hsM hl
  · exact absurd rfl hc
set_option maxHeartbeats 4000000 in
set_option maxRecDepth 100000 in
theorem lc_lots {p : Program} {l : Launch} {e : Env} {s : State} {m : MethodId} {below : List Frame} {meth : Method} {c : Code} {b L : Nat} {xs : Nat → Int32} {Q : State → Prop} {gC gM : GG} {Rel : St → St → Prop} (hL : L ≤ 3072) (C0 : lw_At p s m meth c b L xs) (hKC : KS gC s) (hKM : KS gM s) (hap : ∀ i j, i < 52 → j < 25 → gC.2.1 i ≠ gM.2.1 j) (hS : ∀ (τ σ : St), Rel τ σ → ∀ (a1 a2 : Int32) , ∃ (τ' σ' : St) (r : Int32), fX10_lots τ a1 a2 = some (τ', r) ∧ fX11_lots σ a1 a2 = some (σ', r) ∧ Rel τ' σ') {τ σ : St} (hR : Rel τ σ) {H : Heap} {locs : List Loc} (hsC : HW 52 entC gC (fun q : Nat => s.heap.size ≤ q) s.heap H locs τ) (hsM : HW 25 entM gM (fun q : Nat => s.heap.size ≤ q) s.heap H locs σ) {i : Nat} (hi : i + 6 ≤ L) {ls : Array Slot} (hl : lv_has ls 4 [(0, .ref b), (1, .ref (gC.2.1 0)), (2, .ref (gM.2.1 0)), (3, .int (nI i))]) (kk : ∀ (τ σ : St) (H : Heap) (locs : List Loc) (ls : Array Slot), Rel τ σ → HW 52 entC gC (fun q : Nat => s.heap.size ≤ q) s.heap H locs τ → HW 25 entM gM (fun q : Nat => s.heap.size ≤ q) s.heap H locs σ → lv_has ls 4 [(0, .ref b), (1, .ref (gC.2.1 0)), (2, .ref (gM.2.1 0)), (3, .int (nI i))] → W p l e room_1 s m #[Value.ref b] below meth c H locs 600000 7302250 Q (F0 m 1499 ls [])) : W p l e room_1 s m #[Value.ref b] below meth c H locs 600000 7302250 Q (F0 m 1352 ls []) := by
  have C := cf_law C0
  obtain ⟨hx, hb, hr, hml, hown, hts, hX, hbl, hlocks, hgv⟩ := id C0
  have hA : ∀ q : Nat, s.heap.size ≤ q → (fun q : Nat => s.heap.size ≤ q) q := fun _ h => h
  have hbA : ¬ (fun q : Nat => s.heap.size ≤ q) b := Nat.not_le.mpr hbl
  obtain ⟨τ1, σ1, r, hE1, hE2, hR1⟩ := hS τ σ hR (xs (nI i + 1).toNatClampNeg) (xs (nI i + 2).toNatClampNeg)
  refine lv_aload_n hx hb dL_law_1352 rfl (lv_at hl 1 rfl) ?_
  refine lv_aload_n hx hb dL_law_1353 rfl (lv_at hl 0 rfl) ?_
  refine lv_iload_n hx hb dL_law_1354 rfl (lv_at hl 3 rfl) ?_
  refine lv_iconst (v := 1) hx hb dL_law_1355 (by decide) ?_
  refine lv_iadd hx hb dL_law_1356 ?_
  refine va_sld hx hb hX hbl hbA hsC.2.2 (nI_k (k := 1) hi hL (by decide)) dL_law_1357 ?_
  refine lv_aload_n hx hb dL_law_1358 rfl (lv_at hl 0 rfl) ?_
  refine lv_iload_n hx hb dL_law_1359 rfl (lv_at hl 3 rfl) ?_
  refine lv_iconst (v := 2) hx hb dL_law_1360 (by decide) ?_
  refine lv_iadd hx hb dL_law_1361 ?_
  refine va_sld hx hb hX hbl hbA hsC.2.2 (nI_k (k := 2) hi hL (by decide)) dL_law_1362 ?_
  refine xl_civ (As := [.int (xs (nI i + 1).toNatClampNeg), .int (xs (nI i + 2).toNatClampNeg)]) (rest := []) C hl.1 hKC hsC hA ⟨Nat.le_refl _, Nat.le_refl _⟩ (ctX10_lots l gC _ _ _ _ _ hE1) (cw_L_163 C ⟨Nat.le_of_ble_eq_true rfl, Nat.le_of_ble_eq_true rfl⟩) (hsC.recv hKC 0 (by decide) rfl rfl) rfl rfl (Nat.le_of_ble_eq_true rfl) dL_law_1363 (fun H1 locs1 hsC hk => ?_)
  have hsM := hsM.other (fun i j hi hj e => hap j i hj hi e.symm) hk hsC
  refine lv_aload_n hx hb dL_law_1366 rfl (lv_at hl 2 rfl) ?_
  refine lv_aload_n hx hb dL_law_1367 rfl (lv_at hl 0 rfl) ?_
  refine lv_iload_n hx hb dL_law_1368 rfl (lv_at hl 3 rfl) ?_
  refine lv_iconst (v := 1) hx hb dL_law_1369 (by decide) ?_
  refine lv_iadd hx hb dL_law_1370 ?_
  refine va_sld hx hb hX hbl hbA hsC.2.2 (nI_k (k := 1) hi hL (by decide)) dL_law_1371 ?_
  refine lv_aload_n hx hb dL_law_1372 rfl (lv_at hl 0 rfl) ?_
  refine lv_iload_n hx hb dL_law_1373 rfl (lv_at hl 3 rfl) ?_
  refine lv_iconst (v := 2) hx hb dL_law_1374 (by decide) ?_
  refine lv_iadd hx hb dL_law_1375 ?_
  refine va_sld hx hb hX hbl hbA hsC.2.2 (nI_k (k := 2) hi hL (by decide)) dL_law_1376 ?_
  refine xl_civ (As := [.int (xs (nI i + 1).toNatClampNeg), .int (xs (nI i + 2).toNatClampNeg)]) (rest := [.int r]) C hl.1 hKM hsM hA ⟨Nat.le_refl _, Nat.le_refl _⟩ (ctX11_lots l gM _ _ _ _ _ hE2) (cw_L_166 C ⟨Nat.le_of_ble_eq_true rfl, Nat.le_of_ble_eq_true rfl⟩) (hsM.recv hKM 0 (by decide) rfl rfl) rfl rfl (Nat.le_of_ble_eq_true rfl) dL_law_1377 (fun H2 locs2 hsM hk => ?_)
  have hsC := hsC.other hap hk hsM
  refine lv_icmp_eq (tgt := 1499) hx hb dL_law_1380 (by decide) (fun hc => ?_) (fun hc => ?_)
  · exact kk τ1 σ1 H2 locs2 ls hR1 hsC hsM hl
  · exact absurd rfl hc
set_option maxHeartbeats 4000000 in
set_option maxRecDepth 100000 in
theorem lc_asked {p : Program} {l : Launch} {e : Env} {s : State} {m : MethodId} {below : List Frame} {meth : Method} {c : Code} {b L : Nat} {xs : Nat → Int32} {Q : State → Prop} {gC gM : GG} {Rel : St → St → Prop} (hL : L ≤ 3072) (C0 : lw_At p s m meth c b L xs) (hKC : KS gC s) (hKM : KS gM s) (hap : ∀ i j, i < 52 → j < 25 → gC.2.1 i ≠ gM.2.1 j) (hS : ∀ (τ σ : St), Rel τ σ → ∃ (τ' σ' : St) (r : Int32), fX10_asked τ = some (τ', r) ∧ fX11_asked σ = some (σ', r) ∧ Rel τ' σ') {τ σ : St} (hR : Rel τ σ) {H : Heap} {locs : List Loc} (hsC : HW 52 entC gC (fun q : Nat => s.heap.size ≤ q) s.heap H locs τ) (hsM : HW 25 entM gM (fun q : Nat => s.heap.size ≤ q) s.heap H locs σ) {i : Nat} (hi : i + 6 ≤ L) {ls : Array Slot} (hl : lv_has ls 4 [(0, .ref b), (1, .ref (gC.2.1 0)), (2, .ref (gM.2.1 0)), (3, .int (nI i))]) (kk : ∀ (τ σ : St) (H : Heap) (locs : List Loc) (ls : Array Slot), Rel τ σ → HW 52 entC gC (fun q : Nat => s.heap.size ≤ q) s.heap H locs τ → HW 25 entM gM (fun q : Nat => s.heap.size ≤ q) s.heap H locs σ → lv_has ls 4 [(0, .ref b), (1, .ref (gC.2.1 0)), (2, .ref (gM.2.1 0)), (3, .int (nI i))] → W p l e room_1 s m #[Value.ref b] below meth c H locs 600000 7302250 Q (F0 m 1499 ls [])) : W p l e room_1 s m #[Value.ref b] below meth c H locs 600000 7302250 Q (F0 m 1385 ls []) := by
  have C := cf_law C0
  obtain ⟨hx, hb, hr, hml, hown, hts, hX, hbl, hlocks, hgv⟩ := id C0
  have hA : ∀ q : Nat, s.heap.size ≤ q → (fun q : Nat => s.heap.size ≤ q) q := fun _ h => h
  have hbA : ¬ (fun q : Nat => s.heap.size ≤ q) b := Nat.not_le.mpr hbl
  obtain ⟨τ1, σ1, r, hE1, hE2, hR1⟩ := hS τ σ hR 
  refine lv_aload_n hx hb dL_law_1385 rfl (lv_at hl 1 rfl) ?_
  refine xl_civ (As := []) (rest := []) C hl.1 hKC hsC hA ⟨Nat.le_refl _, Nat.le_refl _⟩ (ctX10_asked l gC _  _ _ hE1) (cw_L_167 C ⟨Nat.le_of_ble_eq_true rfl, Nat.le_of_ble_eq_true rfl⟩) (hsC.recv hKC 0 (by decide) rfl rfl) rfl rfl (Nat.le_of_ble_eq_true rfl) dL_law_1386 (fun H1 locs1 hsC hk => ?_)
  have hsM := hsM.other (fun i j hi hj e => hap j i hj hi e.symm) hk hsC
  refine lv_aload_n hx hb dL_law_1389 rfl (lv_at hl 2 rfl) ?_
  refine xl_civ (As := []) (rest := [.int r]) C hl.1 hKM hsM hA ⟨Nat.le_refl _, Nat.le_refl _⟩ (ctX11_asked l gM _  _ _ hE2) (cw_L_170 C ⟨Nat.le_of_ble_eq_true rfl, Nat.le_of_ble_eq_true rfl⟩) (hsM.recv hKM 0 (by decide) rfl rfl) rfl rfl (Nat.le_of_ble_eq_true rfl) dL_law_1390 (fun H2 locs2 hsM hk => ?_)
  have hsC := hsC.other hap hk hsM
  refine lv_icmp_eq (tgt := 1499) hx hb dL_law_1393 (by decide) (fun hc => ?_) (fun hc => ?_)
  · exact kk τ1 σ1 H2 locs2 ls hR1 hsC hsM hl
  · exact absurd rfl hc
set_option maxHeartbeats 4000000 in
set_option maxRecDepth 100000 in
theorem lc_upper {p : Program} {l : Launch} {e : Env} {s : State} {m : MethodId} {below : List Frame} {meth : Method} {c : Code} {b L : Nat} {xs : Nat → Int32} {Q : State → Prop} {gC gM : GG} {Rel : St → St → Prop} (hL : L ≤ 3072) (C0 : lw_At p s m meth c b L xs) (hKC : KS gC s) (hKM : KS gM s) (hap : ∀ i j, i < 52 → j < 25 → gC.2.1 i ≠ gM.2.1 j) (hS : ∀ (τ σ : St), Rel τ σ → ∃ (τ' σ' : St) (r : Int64), fX10_upper τ = some (τ', r) ∧ fX11_upper σ = some (σ', r) ∧ Rel τ' σ') {τ σ : St} (hR : Rel τ σ) {H : Heap} {locs : List Loc} (hsC : HW 52 entC gC (fun q : Nat => s.heap.size ≤ q) s.heap H locs τ) (hsM : HW 25 entM gM (fun q : Nat => s.heap.size ≤ q) s.heap H locs σ) {i : Nat} (hi : i + 6 ≤ L) {ls : Array Slot} (hl : lv_has ls 4 [(0, .ref b), (1, .ref (gC.2.1 0)), (2, .ref (gM.2.1 0)), (3, .int (nI i))]) (kk : ∀ (τ σ : St) (H : Heap) (locs : List Loc) (ls : Array Slot), Rel τ σ → HW 52 entC gC (fun q : Nat => s.heap.size ≤ q) s.heap H locs τ → HW 25 entM gM (fun q : Nat => s.heap.size ≤ q) s.heap H locs σ → lv_has ls 4 [(0, .ref b), (1, .ref (gC.2.1 0)), (2, .ref (gM.2.1 0)), (3, .int (nI i))] → W p l e room_1 s m #[Value.ref b] below meth c H locs 600000 7302250 Q (F0 m 1499 ls [])) : W p l e room_1 s m #[Value.ref b] below meth c H locs 600000 7302250 Q (F0 m 1398 ls []) := by
  have C := cf_law C0
  obtain ⟨hx, hb, hr, hml, hown, hts, hX, hbl, hlocks, hgv⟩ := id C0
  have hA : ∀ q : Nat, s.heap.size ≤ q → (fun q : Nat => s.heap.size ≤ q) q := fun _ h => h
  have hbA : ¬ (fun q : Nat => s.heap.size ≤ q) b := Nat.not_le.mpr hbl
  obtain ⟨τ1, σ1, r, hE1, hE2, hR1⟩ := hS τ σ hR 
  refine lv_aload_n hx hb dL_law_1398 rfl (lv_at hl 1 rfl) ?_
  refine xl_clv (As := []) (rest := []) C hl.1 hKC hsC hA ⟨Nat.le_refl _, Nat.le_refl _⟩ (ctX10_upper l gC _  _ _ hE1) (cw_L_171 C ⟨Nat.le_of_ble_eq_true rfl, Nat.le_of_ble_eq_true rfl⟩) (hsC.recv hKC 0 (by decide) rfl rfl) rfl rfl (Nat.le_of_ble_eq_true rfl) dL_law_1399 (fun H1 locs1 hsC hk => ?_)
  have hsM := hsM.other (fun i j hi hj e => hap j i hj hi e.symm) hk hsC
  refine lv_aload_n hx hb dL_law_1402 rfl (lv_at hl 2 rfl) ?_
  refine xl_clv (As := []) (rest := [.long r]) C hl.1 hKM hsM hA ⟨Nat.le_refl _, Nat.le_refl _⟩ (ctX11_upper l gM _  _ _ hE2) (cw_L_175 C ⟨Nat.le_of_ble_eq_true rfl, Nat.le_of_ble_eq_true rfl⟩) (hsM.recv hKM 0 (by decide) rfl rfl) rfl rfl (Nat.le_of_ble_eq_true rfl) dL_law_1403 (fun H2 locs2 hsM hk => ?_)
  have hsC := hsC.other hap hk hsM
  refine W.lcmp hx hb dL_law_1406 ?_
  refine lv_if_eq (tgt := 1499) hx hb dL_law_1407 (by decide) (fun hc => ?_) (fun hc => ?_)
  · exact kk τ1 σ1 H2 locs2 ls hR1 hsC hsM hl
  · exact absurd (by unfold lg_cmp; rw [if_neg (fun h => by simp at h), if_pos rfl]) hc
set_option maxHeartbeats 4000000 in
set_option maxRecDepth 100000 in
theorem lc_lower {p : Program} {l : Launch} {e : Env} {s : State} {m : MethodId} {below : List Frame} {meth : Method} {c : Code} {b L : Nat} {xs : Nat → Int32} {Q : State → Prop} {gC gM : GG} {Rel : St → St → Prop} (hL : L ≤ 3072) (C0 : lw_At p s m meth c b L xs) (hKC : KS gC s) (hKM : KS gM s) (hap : ∀ i j, i < 52 → j < 25 → gC.2.1 i ≠ gM.2.1 j) (hS : ∀ (τ σ : St), Rel τ σ → ∃ (τ' σ' : St) (r : Int64), fX10_lower τ = some (τ', r) ∧ fX11_lower σ = some (σ', r) ∧ Rel τ' σ') {τ σ : St} (hR : Rel τ σ) {H : Heap} {locs : List Loc} (hsC : HW 52 entC gC (fun q : Nat => s.heap.size ≤ q) s.heap H locs τ) (hsM : HW 25 entM gM (fun q : Nat => s.heap.size ≤ q) s.heap H locs σ) {i : Nat} (hi : i + 6 ≤ L) {ls : Array Slot} (hl : lv_has ls 4 [(0, .ref b), (1, .ref (gC.2.1 0)), (2, .ref (gM.2.1 0)), (3, .int (nI i))]) (kk : ∀ (τ σ : St) (H : Heap) (locs : List Loc) (ls : Array Slot), Rel τ σ → HW 52 entC gC (fun q : Nat => s.heap.size ≤ q) s.heap H locs τ → HW 25 entM gM (fun q : Nat => s.heap.size ≤ q) s.heap H locs σ → lv_has ls 4 [(0, .ref b), (1, .ref (gC.2.1 0)), (2, .ref (gM.2.1 0)), (3, .int (nI i))] → W p l e room_1 s m #[Value.ref b] below meth c H locs 600000 7302250 Q (F0 m 1499 ls [])) : W p l e room_1 s m #[Value.ref b] below meth c H locs 600000 7302250 Q (F0 m 1412 ls []) := by
  have C := cf_law C0
  obtain ⟨hx, hb, hr, hml, hown, hts, hX, hbl, hlocks, hgv⟩ := id C0
  have hA : ∀ q : Nat, s.heap.size ≤ q → (fun q : Nat => s.heap.size ≤ q) q := fun _ h => h
  have hbA : ¬ (fun q : Nat => s.heap.size ≤ q) b := Nat.not_le.mpr hbl
  obtain ⟨τ1, σ1, r, hE1, hE2, hR1⟩ := hS τ σ hR 
  refine lv_aload_n hx hb dL_law_1412 rfl (lv_at hl 1 rfl) ?_
  refine xl_clv (As := []) (rest := []) C hl.1 hKC hsC hA ⟨Nat.le_refl _, Nat.le_refl _⟩ (ctX10_lower l gC _  _ _ hE1) (cw_L_176 C ⟨Nat.le_of_ble_eq_true rfl, Nat.le_of_ble_eq_true rfl⟩) (hsC.recv hKC 0 (by decide) rfl rfl) rfl rfl (Nat.le_of_ble_eq_true rfl) dL_law_1413 (fun H1 locs1 hsC hk => ?_)
  have hsM := hsM.other (fun i j hi hj e => hap j i hj hi e.symm) hk hsC
  refine lv_aload_n hx hb dL_law_1416 rfl (lv_at hl 2 rfl) ?_
  refine xl_clv (As := []) (rest := [.long r]) C hl.1 hKM hsM hA ⟨Nat.le_refl _, Nat.le_refl _⟩ (ctX11_lower l gM _  _ _ hE2) (cw_L_179 C ⟨Nat.le_of_ble_eq_true rfl, Nat.le_of_ble_eq_true rfl⟩) (hsM.recv hKM 0 (by decide) rfl rfl) rfl rfl (Nat.le_of_ble_eq_true rfl) dL_law_1417 (fun H2 locs2 hsM hk => ?_)
  have hsC := hsC.other hap hk hsM
  refine W.lcmp hx hb dL_law_1420 ?_
  refine lv_if_eq (tgt := 1499) hx hb dL_law_1421 (by decide) (fun hc => ?_) (fun hc => ?_)
  · exact kk τ1 σ1 H2 locs2 ls hR1 hsC hsM hl
  · exact absurd (by unfold lg_cmp; rw [if_neg (fun h => by simp at h), if_pos rfl]) hc
set_option maxHeartbeats 4000000 in
set_option maxRecDepth 100000 in
theorem lc_count {p : Program} {l : Launch} {e : Env} {s : State} {m : MethodId} {below : List Frame} {meth : Method} {c : Code} {b L : Nat} {xs : Nat → Int32} {Q : State → Prop} {gC gM : GG} {Rel : St → St → Prop} (hL : L ≤ 3072) (C0 : lw_At p s m meth c b L xs) (hKC : KS gC s) (hKM : KS gM s) (hap : ∀ i j, i < 52 → j < 25 → gC.2.1 i ≠ gM.2.1 j) (hS : ∀ (τ σ : St), Rel τ σ → ∀ (a1 : Int32) , ∃ (τ' σ' : St) (r : Int32), fX10_count τ a1 = some (τ', r) ∧ fX11_count σ a1 = some (σ', r) ∧ Rel τ' σ') {τ σ : St} (hR : Rel τ σ) {H : Heap} {locs : List Loc} (hsC : HW 52 entC gC (fun q : Nat => s.heap.size ≤ q) s.heap H locs τ) (hsM : HW 25 entM gM (fun q : Nat => s.heap.size ≤ q) s.heap H locs σ) {i : Nat} (hi : i + 6 ≤ L) {ls : Array Slot} (hl : lv_has ls 4 [(0, .ref b), (1, .ref (gC.2.1 0)), (2, .ref (gM.2.1 0)), (3, .int (nI i))]) (kk : ∀ (τ σ : St) (H : Heap) (locs : List Loc) (ls : Array Slot), Rel τ σ → HW 52 entC gC (fun q : Nat => s.heap.size ≤ q) s.heap H locs τ → HW 25 entM gM (fun q : Nat => s.heap.size ≤ q) s.heap H locs σ → lv_has ls 4 [(0, .ref b), (1, .ref (gC.2.1 0)), (2, .ref (gM.2.1 0)), (3, .int (nI i))] → W p l e room_1 s m #[Value.ref b] below meth c H locs 600000 7302250 Q (F0 m 1499 ls [])) : W p l e room_1 s m #[Value.ref b] below meth c H locs 600000 7302250 Q (F0 m 1426 ls []) := by
  have C := cf_law C0
  obtain ⟨hx, hb, hr, hml, hown, hts, hX, hbl, hlocks, hgv⟩ := id C0
  have hA : ∀ q : Nat, s.heap.size ≤ q → (fun q : Nat => s.heap.size ≤ q) q := fun _ h => h
  have hbA : ¬ (fun q : Nat => s.heap.size ≤ q) b := Nat.not_le.mpr hbl
  obtain ⟨τ1, σ1, r, hE1, hE2, hR1⟩ := hS τ σ hR (xs (nI i + 1).toNatClampNeg)
  refine lv_aload_n hx hb dL_law_1426 rfl (lv_at hl 1 rfl) ?_
  refine lv_aload_n hx hb dL_law_1427 rfl (lv_at hl 0 rfl) ?_
  refine lv_iload_n hx hb dL_law_1428 rfl (lv_at hl 3 rfl) ?_
  refine lv_iconst (v := 1) hx hb dL_law_1429 (by decide) ?_
  refine lv_iadd hx hb dL_law_1430 ?_
  refine va_sld hx hb hX hbl hbA hsC.2.2 (nI_k (k := 1) hi hL (by decide)) dL_law_1431 ?_
  refine xl_civ (As := [.int (xs (nI i + 1).toNatClampNeg)]) (rest := []) C hl.1 hKC hsC hA ⟨Nat.le_refl _, Nat.le_refl _⟩ (ctX10_count l gC _ _ _ _ hE1) (cw_L_180 C ⟨Nat.le_of_ble_eq_true rfl, Nat.le_of_ble_eq_true rfl⟩) (hsC.recv hKC 0 (by decide) rfl rfl) rfl rfl (Nat.le_of_ble_eq_true rfl) dL_law_1432 (fun H1 locs1 hsC hk => ?_)
  have hsM := hsM.other (fun i j hi hj e => hap j i hj hi e.symm) hk hsC
  refine lv_aload_n hx hb dL_law_1435 rfl (lv_at hl 2 rfl) ?_
  refine lv_aload_n hx hb dL_law_1436 rfl (lv_at hl 0 rfl) ?_
  refine lv_iload_n hx hb dL_law_1437 rfl (lv_at hl 3 rfl) ?_
  refine lv_iconst (v := 1) hx hb dL_law_1438 (by decide) ?_
  refine lv_iadd hx hb dL_law_1439 ?_
  refine va_sld hx hb hX hbl hbA hsC.2.2 (nI_k (k := 1) hi hL (by decide)) dL_law_1440 ?_
  refine xl_civ (As := [.int (xs (nI i + 1).toNatClampNeg)]) (rest := [.int r]) C hl.1 hKM hsM hA ⟨Nat.le_refl _, Nat.le_refl _⟩ (ctX11_count l gM _ _ _ _ hE2) (cw_L_183 C ⟨Nat.le_of_ble_eq_true rfl, Nat.le_of_ble_eq_true rfl⟩) (hsM.recv hKM 0 (by decide) rfl rfl) rfl rfl (Nat.le_of_ble_eq_true rfl) dL_law_1441 (fun H2 locs2 hsM hk => ?_)
  have hsC := hsC.other hap hk hsM
  refine lv_icmp_eq (tgt := 1499) hx hb dL_law_1444 (by decide) (fun hc => ?_) (fun hc => ?_)
  · exact kk τ1 σ1 H2 locs2 ls hR1 hsC hsM hl
  · exact absurd rfl hc
set_option maxHeartbeats 4000000 in
set_option maxRecDepth 100000 in
theorem lc_finding {p : Program} {l : Launch} {e : Env} {s : State} {m : MethodId} {below : List Frame} {meth : Method} {c : Code} {b L : Nat} {xs : Nat → Int32} {Q : State → Prop} {gC gM : GG} {Rel : St → St → Prop} (hL : L ≤ 3072) (C0 : lw_At p s m meth c b L xs) (hKC : KS gC s) (hKM : KS gM s) (hap : ∀ i j, i < 52 → j < 25 → gC.2.1 i ≠ gM.2.1 j) (hS : ∀ (τ σ : St), Rel τ σ → ∃ (τ' σ' : St) (r : Int32), fX10_finding τ = some (τ', r) ∧ fX11_finding σ = some (σ', r) ∧ Rel τ' σ') {τ σ : St} (hR : Rel τ σ) {H : Heap} {locs : List Loc} (hsC : HW 52 entC gC (fun q : Nat => s.heap.size ≤ q) s.heap H locs τ) (hsM : HW 25 entM gM (fun q : Nat => s.heap.size ≤ q) s.heap H locs σ) {i : Nat} (hi : i + 6 ≤ L) {ls : Array Slot} (hl : lv_has ls 4 [(0, .ref b), (1, .ref (gC.2.1 0)), (2, .ref (gM.2.1 0)), (3, .int (nI i))]) (kk : ∀ (τ σ : St) (H : Heap) (locs : List Loc) (ls : Array Slot), Rel τ σ → HW 52 entC gC (fun q : Nat => s.heap.size ≤ q) s.heap H locs τ → HW 25 entM gM (fun q : Nat => s.heap.size ≤ q) s.heap H locs σ → lv_has ls 4 [(0, .ref b), (1, .ref (gC.2.1 0)), (2, .ref (gM.2.1 0)), (3, .int (nI i))] → W p l e room_1 s m #[Value.ref b] below meth c H locs 600000 7302250 Q (F0 m 1499 ls [])) : W p l e room_1 s m #[Value.ref b] below meth c H locs 600000 7302250 Q (F0 m 1449 ls []) := by
  have C := cf_law C0
  obtain ⟨hx, hb, hr, hml, hown, hts, hX, hbl, hlocks, hgv⟩ := id C0
  have hA : ∀ q : Nat, s.heap.size ≤ q → (fun q : Nat => s.heap.size ≤ q) q := fun _ h => h
  have hbA : ¬ (fun q : Nat => s.heap.size ≤ q) b := Nat.not_le.mpr hbl
  obtain ⟨τ1, σ1, r, hE1, hE2, hR1⟩ := hS τ σ hR 
  refine lv_aload_n hx hb dL_law_1449 rfl (lv_at hl 1 rfl) ?_
  refine xl_civ (As := []) (rest := []) C hl.1 hKC hsC hA ⟨Nat.le_refl _, Nat.le_refl _⟩ (ctX10_finding l gC _  _ _ hE1) (cw_L_184 C ⟨Nat.le_of_ble_eq_true rfl, Nat.le_of_ble_eq_true rfl⟩) (hsC.recv hKC 0 (by decide) rfl rfl) rfl rfl (Nat.le_of_ble_eq_true rfl) dL_law_1450 (fun H1 locs1 hsC hk => ?_)
  have hsM := hsM.other (fun i j hi hj e => hap j i hj hi e.symm) hk hsC
  refine lv_aload_n hx hb dL_law_1453 rfl (lv_at hl 2 rfl) ?_
  refine xl_civ (As := []) (rest := [.int r]) C hl.1 hKM hsM hA ⟨Nat.le_refl _, Nat.le_refl _⟩ (ctX11_finding l gM _  _ _ hE2) (cw_L_187 C ⟨Nat.le_of_ble_eq_true rfl, Nat.le_of_ble_eq_true rfl⟩) (hsM.recv hKM 0 (by decide) rfl rfl) rfl rfl (Nat.le_of_ble_eq_true rfl) dL_law_1454 (fun H2 locs2 hsM hk => ?_)
  have hsC := hsC.other hap hk hsM
  refine lv_icmp_eq (tgt := 1499) hx hb dL_law_1457 (by decide) (fun hc => ?_) (fun hc => ?_)
  · exact kk τ1 σ1 H2 locs2 ls hR1 hsC hsM hl
  · exact absurd rfl hc
set_option maxHeartbeats 4000000 in
set_option maxRecDepth 100000 in
theorem lc_findings {p : Program} {l : Launch} {e : Env} {s : State} {m : MethodId} {below : List Frame} {meth : Method} {c : Code} {b L : Nat} {xs : Nat → Int32} {Q : State → Prop} {gC gM : GG} {Rel : St → St → Prop} (hL : L ≤ 3072) (C0 : lw_At p s m meth c b L xs) (hKC : KS gC s) (hKM : KS gM s) (hap : ∀ i j, i < 52 → j < 25 → gC.2.1 i ≠ gM.2.1 j) (hS : ∀ (τ σ : St), Rel τ σ → ∀ (a1 : Int32) , ∃ (τ' σ' : St) (r : Int32), fX10_findings τ a1 = some (τ', r) ∧ fX11_findings σ a1 = some (σ', r) ∧ Rel τ' σ') {τ σ : St} (hR : Rel τ σ) {H : Heap} {locs : List Loc} (hsC : HW 52 entC gC (fun q : Nat => s.heap.size ≤ q) s.heap H locs τ) (hsM : HW 25 entM gM (fun q : Nat => s.heap.size ≤ q) s.heap H locs σ) {i : Nat} (hi : i + 6 ≤ L) {ls : Array Slot} (hl : lv_has ls 4 [(0, .ref b), (1, .ref (gC.2.1 0)), (2, .ref (gM.2.1 0)), (3, .int (nI i))]) (kk : ∀ (τ σ : St) (H : Heap) (locs : List Loc) (ls : Array Slot), Rel τ σ → HW 52 entC gC (fun q : Nat => s.heap.size ≤ q) s.heap H locs τ → HW 25 entM gM (fun q : Nat => s.heap.size ≤ q) s.heap H locs σ → lv_has ls 4 [(0, .ref b), (1, .ref (gC.2.1 0)), (2, .ref (gM.2.1 0)), (3, .int (nI i))] → W p l e room_1 s m #[Value.ref b] below meth c H locs 600000 7302250 Q (F0 m 1499 ls [])) : W p l e room_1 s m #[Value.ref b] below meth c H locs 600000 7302250 Q (F0 m 1462 ls []) := by
  have C := cf_law C0
  obtain ⟨hx, hb, hr, hml, hown, hts, hX, hbl, hlocks, hgv⟩ := id C0
  have hA : ∀ q : Nat, s.heap.size ≤ q → (fun q : Nat => s.heap.size ≤ q) q := fun _ h => h
  have hbA : ¬ (fun q : Nat => s.heap.size ≤ q) b := Nat.not_le.mpr hbl
  obtain ⟨τ1, σ1, r, hE1, hE2, hR1⟩ := hS τ σ hR (xs (nI i + 1).toNatClampNeg)
  refine lv_aload_n hx hb dL_law_1462 rfl (lv_at hl 1 rfl) ?_
  refine lv_aload_n hx hb dL_law_1463 rfl (lv_at hl 0 rfl) ?_
  refine lv_iload_n hx hb dL_law_1464 rfl (lv_at hl 3 rfl) ?_
  refine lv_iconst (v := 1) hx hb dL_law_1465 (by decide) ?_
  refine lv_iadd hx hb dL_law_1466 ?_
  refine va_sld hx hb hX hbl hbA hsC.2.2 (nI_k (k := 1) hi hL (by decide)) dL_law_1467 ?_
  refine xl_civ (As := [.int (xs (nI i + 1).toNatClampNeg)]) (rest := []) C hl.1 hKC hsC hA ⟨Nat.le_refl _, Nat.le_refl _⟩ (ctX10_findings l gC _ _ _ _ hE1) (cw_L_188 C ⟨Nat.le_of_ble_eq_true rfl, Nat.le_of_ble_eq_true rfl⟩) (hsC.recv hKC 0 (by decide) rfl rfl) rfl rfl (Nat.le_of_ble_eq_true rfl) dL_law_1468 (fun H1 locs1 hsC hk => ?_)
  have hsM := hsM.other (fun i j hi hj e => hap j i hj hi e.symm) hk hsC
  refine lv_aload_n hx hb dL_law_1471 rfl (lv_at hl 2 rfl) ?_
  refine lv_aload_n hx hb dL_law_1472 rfl (lv_at hl 0 rfl) ?_
  refine lv_iload_n hx hb dL_law_1473 rfl (lv_at hl 3 rfl) ?_
  refine lv_iconst (v := 1) hx hb dL_law_1474 (by decide) ?_
  refine lv_iadd hx hb dL_law_1475 ?_
  refine va_sld hx hb hX hbl hbA hsC.2.2 (nI_k (k := 1) hi hL (by decide)) dL_law_1476 ?_
  refine xl_civ (As := [.int (xs (nI i + 1).toNatClampNeg)]) (rest := [.int r]) C hl.1 hKM hsM hA ⟨Nat.le_refl _, Nat.le_refl _⟩ (ctX11_findings l gM _ _ _ _ hE2) (cw_L_191 C ⟨Nat.le_of_ble_eq_true rfl, Nat.le_of_ble_eq_true rfl⟩) (hsM.recv hKM 0 (by decide) rfl rfl) rfl rfl (Nat.le_of_ble_eq_true rfl) dL_law_1477 (fun H2 locs2 hsM hk => ?_)
  have hsC := hsC.other hap hk hsM
  refine lv_icmp_eq (tgt := 1499) hx hb dL_law_1480 (by decide) (fun hc => ?_) (fun hc => ?_)
  · exact kk τ1 σ1 H2 locs2 ls hR1 hsC hsM hl
  · exact absurd rfl hc
set_option maxHeartbeats 4000000 in
set_option maxRecDepth 100000 in
theorem lc_digest {p : Program} {l : Launch} {e : Env} {s : State} {m : MethodId} {below : List Frame} {meth : Method} {c : Code} {b L : Nat} {xs : Nat → Int32} {Q : State → Prop} {gC gM : GG} {Rel : St → St → Prop} (hL : L ≤ 3072) (C0 : lw_At p s m meth c b L xs) (hKC : KS gC s) (hKM : KS gM s) (hap : ∀ i j, i < 52 → j < 25 → gC.2.1 i ≠ gM.2.1 j) (hS : ∀ (τ σ : St), Rel τ σ → ∃ (τ' σ' : St) (r : Int64), fX10_digest τ = some (τ', r) ∧ fX11_digest σ = some (σ', r) ∧ Rel τ' σ') {τ σ : St} (hR : Rel τ σ) {H : Heap} {locs : List Loc} (hsC : HW 52 entC gC (fun q : Nat => s.heap.size ≤ q) s.heap H locs τ) (hsM : HW 25 entM gM (fun q : Nat => s.heap.size ≤ q) s.heap H locs σ) {i : Nat} (hi : i + 6 ≤ L) {ls : Array Slot} (hl : lv_has ls 4 [(0, .ref b), (1, .ref (gC.2.1 0)), (2, .ref (gM.2.1 0)), (3, .int (nI i))]) (kk : ∀ (τ σ : St) (H : Heap) (locs : List Loc) (ls : Array Slot), Rel τ σ → HW 52 entC gC (fun q : Nat => s.heap.size ≤ q) s.heap H locs τ → HW 25 entM gM (fun q : Nat => s.heap.size ≤ q) s.heap H locs σ → lv_has ls 4 [(0, .ref b), (1, .ref (gC.2.1 0)), (2, .ref (gM.2.1 0)), (3, .int (nI i))] → W p l e room_1 s m #[Value.ref b] below meth c H locs 600000 7302250 Q (F0 m 1499 ls [])) : W p l e room_1 s m #[Value.ref b] below meth c H locs 600000 7302250 Q (F0 m 1485 ls []) := by
  have C := cf_law C0
  obtain ⟨hx, hb, hr, hml, hown, hts, hX, hbl, hlocks, hgv⟩ := id C0
  have hA : ∀ q : Nat, s.heap.size ≤ q → (fun q : Nat => s.heap.size ≤ q) q := fun _ h => h
  have hbA : ¬ (fun q : Nat => s.heap.size ≤ q) b := Nat.not_le.mpr hbl
  obtain ⟨τ1, σ1, r, hE1, hE2, hR1⟩ := hS τ σ hR 
  refine lv_aload_n hx hb dL_law_1485 rfl (lv_at hl 1 rfl) ?_
  refine xl_clv (As := []) (rest := []) C hl.1 hKC hsC hA ⟨Nat.le_refl _, Nat.le_refl _⟩ (ctX10_digest l gC _  _ _ hE1) (cw_L_192 C ⟨Nat.le_of_ble_eq_true rfl, Nat.le_of_ble_eq_true rfl⟩) (hsC.recv hKC 0 (by decide) rfl rfl) rfl rfl (Nat.le_of_ble_eq_true rfl) dL_law_1486 (fun H1 locs1 hsC hk => ?_)
  have hsM := hsM.other (fun i j hi hj e => hap j i hj hi e.symm) hk hsC
  refine lv_aload_n hx hb dL_law_1489 rfl (lv_at hl 2 rfl) ?_
  refine xl_clv (As := []) (rest := [.long r]) C hl.1 hKM hsM hA ⟨Nat.le_refl _, Nat.le_refl _⟩ (ctX11_digest l gM _  _ _ hE2) (cw_L_195 C ⟨Nat.le_of_ble_eq_true rfl, Nat.le_of_ble_eq_true rfl⟩) (hsM.recv hKM 0 (by decide) rfl rfl) rfl rfl (Nat.le_of_ble_eq_true rfl) dL_law_1490 (fun H2 locs2 hsM hk => ?_)
  have hsC := hsC.other hap hk hsM
  refine W.lcmp hx hb dL_law_1493 ?_
  refine lv_if_eq (tgt := 1499) hx hb dL_law_1494 (by decide) (fun hc => ?_) (fun hc => ?_)
  · exact kk τ1 σ1 H2 locs2 ls hR1 hsC hsM hl
  · exact absurd (by unfold lg_cmp; rw [if_neg (fun h => by simp at h), if_pos rfl]) hc
