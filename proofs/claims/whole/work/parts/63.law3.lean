theorem lw_gt {i L : Nat} (h : L < i + 6) (hL : L ≤ 3072) (hi : i ≤ 3078) : Int32.ofNat L - 6 < nI i := by
  have e : (Int32.ofNat L - 6 : Int32) = nI L - nI 6 := rfl
  rw [e, Int32.lt_iff_toInt_lt, pk_sub_toInt (by omega) (by omega), nI_toInt (by omega)]
  omega
def StpAll (Rel : St → St → Prop) : Prop :=
  (∀ (τ σ : St), Rel τ σ → ∀ (a1 a2 : Int32) , ∃ (τ' σ' : St) (r : Int32), fX10_row τ a1 a2 = some (τ', r) ∧ fX11_row σ a1 a2 = some (σ', r) ∧ Rel τ' σ') ∧
  (∀ (τ σ : St), Rel τ σ → ∀ (a1 a2 a3 : Int32) , ∃ (τ' σ' : St) (r : Int32), fX10_lay τ a1 a2 a3 = some (τ', r) ∧ fX11_lay σ a1 a2 a3 = some (σ', r) ∧ Rel τ' σ') ∧
  (∀ (τ σ : St), Rel τ σ → ∀ (a1 a2 : Int32) , ∃ (τ' σ' : St) (r : Int32), fX10_at τ a1 a2 = some (τ', r) ∧ fX11_at σ a1 a2 = some (σ', r) ∧ Rel τ' σ') ∧
  (∀ (τ σ : St), Rel τ σ → ∀ (a1 : Int32) , ∃ (τ' σ' : St) (r : Int32), fX10_tear τ a1 = some (τ', r) ∧ fX11_tear σ a1 = some (σ', r) ∧ Rel τ' σ') ∧
  (∀ (τ σ : St), Rel τ σ → ∀ (a1 a2 a3 a4 a5 : Int32) , ∃ (τ' σ' : St) (r : Int32), fX10_copy τ a1 a2 a3 a4 a5 = some (τ', r) ∧ fX11_copy σ a1 a2 a3 a4 a5 = some (σ', r) ∧ Rel τ' σ') ∧
  (∀ (τ σ : St), Rel τ σ → ∀ (a1 : Int32) , ∃ (τ' σ' : St) (r : Int32), fX10_mean τ a1 = some (τ', r) ∧ fX11_mean σ a1 = some (σ', r) ∧ Rel τ' σ') ∧
  (∀ (τ σ : St), Rel τ σ → ∀ (a1 a2 : Int32) , ∃ (τ' σ' : St) (r : Int32), fX10_text τ a1 a2 = some (τ', r) ∧ fX11_text σ a1 a2 = some (σ', r) ∧ Rel τ' σ') ∧
  (∀ (τ σ : St), Rel τ σ → ∀ (a1 a2 a3 : Int32) , ∃ (τ' σ' : St) (r : Int32), fX10_put τ a1 a2 a3 = some (τ', r) ∧ fX11_put σ a1 a2 a3 = some (σ', r) ∧ Rel τ' σ') ∧
  (∀ (τ σ : St), Rel τ σ → ∀ (a1 : Int32) , ∃ (τ' σ' : St) (r : Int32), fX10_fault τ a1 = some (τ', r) ∧ fX11_fault σ a1 = some (σ', r) ∧ Rel τ' σ') ∧
  (∀ (τ σ : St), Rel τ σ → ∀ (a1 : Int32) , ∃ (τ' σ' : St) (r : Int32), fX10_town τ a1 = some (τ', r) ∧ fX11_town σ a1 = some (σ', r) ∧ Rel τ' σ') ∧
  (∀ (τ σ : St), Rel τ σ → ∀ (a1 a2 : Int32) , ∃ (τ' σ' : St) (r : Int32), fX10_colour τ a1 a2 = some (τ', r) ∧ fX11_colour σ a1 a2 = some (σ', r) ∧ Rel τ' σ') ∧
  (∀ (τ σ : St), Rel τ σ → ∀ (a1 a2 : Int32) , ∃ (τ' σ' : St) (r : Int32), fX10_letter τ a1 a2 = some (τ', r) ∧ fX11_letter σ a1 a2 = some (σ', r) ∧ Rel τ' σ') ∧
  (∀ (τ σ : St), Rel τ σ → ∀ (a1 a2 : Int32) , ∃ (τ' σ' : St) (r : Int32), fX10_house τ a1 a2 = some (τ', r) ∧ fX11_house σ a1 a2 = some (σ', r) ∧ Rel τ' σ') ∧
  (∀ (τ σ : St), Rel τ σ → ∀ (a1 a2 : Int32) , ∃ (τ' σ' : St) (r : Int32), fX10_thing τ a1 a2 = some (τ', r) ∧ fX11_thing σ a1 a2 = some (σ', r) ∧ Rel τ' σ') ∧
  (∀ (τ σ : St), Rel τ σ → ∀ (a1 a2 : Int32) , ∃ (τ' σ' : St) (r : Int32), fX10_mark τ a1 a2 = some (τ', r) ∧ fX11_mark σ a1 a2 = some (σ', r) ∧ Rel τ' σ') ∧
  (∀ (τ σ : St), Rel τ σ → ∀ (a1 a2 : Int32) , ∃ (τ' σ' : St) (r : Int32), fX10_buy τ a1 a2 = some (τ', r) ∧ fX11_buy σ a1 a2 = some (σ', r) ∧ Rel τ' σ') ∧
  (∀ (τ σ : St), Rel τ σ → ∃ (τ' σ' : St) (r : Int32), fX10_month τ = some (τ', r) ∧ fX11_month σ = some (σ', r) ∧ Rel τ' σ') ∧
  (∀ (τ σ : St), Rel τ σ → ∀ (a1 a2 a3 a4 : Int32) , ∃ (τ' σ' : St) (r : Int32), fX10_trade τ a1 a2 a3 a4 = some (τ', r) ∧ fX11_trade σ a1 a2 a3 a4 = some (σ', r) ∧ Rel τ' σ') ∧
  (∀ (τ σ : St), Rel τ σ → ∀ (a1 a2 a3 : Int32) , ∃ (τ' σ' : St) (r : Int32), fX10_lend τ a1 a2 a3 = some (τ', r) ∧ fX11_lend σ a1 a2 a3 = some (σ', r) ∧ Rel τ' σ') ∧
  (∀ (τ σ : St), Rel τ σ → ∀ (a1 : Int32) , ∃ (τ' σ' : St) (r : Int32), fX10_undo τ a1 = some (τ', r) ∧ fX11_undo σ a1 = some (σ', r) ∧ Rel τ' σ') ∧
  (∀ (τ σ : St), Rel τ σ → ∀ (a1 : Int32) , ∃ (τ' σ' : St) (r : Int32), fX10_keep τ a1 = some (τ', r) ∧ fX11_keep σ a1 = some (σ', r) ∧ Rel τ' σ') ∧
  (∀ (τ σ : St), Rel τ σ → ∀ (a1 : Int32) , ∃ (τ' σ' : St) (r : Int32), fX10_on τ a1 = some (τ', r) ∧ fX11_on σ a1 = some (σ', r) ∧ Rel τ' σ') ∧
  (∀ (τ σ : St), Rel τ σ → ∃ (τ' σ' : St) (r : Int32), fX10_next τ = some (τ', r) ∧ fX11_next σ = some (σ', r) ∧ Rel τ' σ') ∧
  (∀ (τ σ : St), Rel τ σ → ∀ (a1 : Int32) , ∃ (τ' σ' : St) (r : Int32), fX10_fades τ a1 = some (τ', r) ∧ fX11_fades σ a1 = some (σ', r) ∧ Rel τ' σ') ∧
  (∀ (τ σ : St), Rel τ σ → ∀ (a1 a2 : Int32) , ∃ (τ' σ' : St) (r : Int32), fX10_later τ a1 a2 = some (τ', r) ∧ fX11_later σ a1 a2 = some (σ', r) ∧ Rel τ' σ') ∧
  (∀ (τ σ : St), Rel τ σ → ∀ (a1 a2 : Int32) , ∃ (τ' σ' : St) (r : Int32), fX10_soon τ a1 a2 = some (τ', r) ∧ fX11_soon σ a1 a2 = some (σ', r) ∧ Rel τ' σ') ∧
  (∀ (τ σ : St), Rel τ σ → ∀ (a1 a2 : Int32) , ∃ (τ' σ' : St) (r : Int32), fX10_feast τ a1 a2 = some (τ', r) ∧ fX11_feast σ a1 a2 = some (σ', r) ∧ Rel τ' σ') ∧
  (∀ (τ σ : St), Rel τ σ → ∀ (a1 a2 : Int32) , ∃ (τ' σ' : St) (r : Int32), fX10_shop τ a1 a2 = some (τ', r) ∧ fX11_shop σ a1 a2 = some (σ', r) ∧ Rel τ' σ') ∧
  (∀ (τ σ : St), Rel τ σ → ∀ (a1 : Int32) , ∃ (τ' σ' : St) (r : Int32), fX10_best τ a1 = some (τ', r) ∧ fX11_best σ a1 = some (σ', r) ∧ Rel τ' σ') ∧
  (∀ (τ σ : St), Rel τ σ → ∀ (a1 : Int32) , ∃ (τ' σ' : St) (r : Int32), fX10_word τ a1 = some (τ', r) ∧ fX11_word σ a1 = some (σ', r) ∧ Rel τ' σ') ∧
  (∀ (τ σ : St), Rel τ σ → ∀ (a1 a2 : Int32) , ∃ (τ' σ' : St) (r : Int32), fX10_kinds τ a1 a2 = some (τ', r) ∧ fX11_kinds σ a1 a2 = some (σ', r) ∧ Rel τ' σ') ∧
  (∀ (τ σ : St), Rel τ σ → ∀ (a1 a2 : Int32) , ∃ (τ' σ' : St) (r : Int32), fX10_monthly τ a1 a2 = some (τ', r) ∧ fX11_monthly σ a1 a2 = some (σ', r) ∧ Rel τ' σ') ∧
  (∀ (τ σ : St), Rel τ σ → ∀ (a1 a2 : Int32) , ∃ (τ' σ' : St) (r : Int32), fX10_test τ a1 a2 = some (τ', r) ∧ fX11_test σ a1 a2 = some (σ', r) ∧ Rel τ' σ') ∧
  (∀ (τ σ : St), Rel τ σ → ∀ (a1 : Int32) , ∃ (τ' σ' : St) (r : Int32), fX10_duel τ a1 = some (τ', r) ∧ fX11_duel σ a1 = some (σ', r) ∧ Rel τ' σ') ∧
  (∀ (τ σ : St), Rel τ σ → ∀ (a1 a2 a3 : Int32) , ∃ (τ' σ' : St) (r : Int32), fX10_odds τ a1 a2 a3 = some (τ', r) ∧ fX11_odds σ a1 a2 a3 = some (σ', r) ∧ Rel τ' σ') ∧
  (∀ (τ σ : St), Rel τ σ → ∀ (a1 a2 : Int32) , ∃ (τ' σ' : St) (r : Int32), fX10_mid τ a1 a2 = some (τ', r) ∧ fX11_mid σ a1 a2 = some (σ', r) ∧ Rel τ' σ') ∧
  (∀ (τ σ : St), Rel τ σ → ∀ (a1 a2 : Int32) , ∃ (τ' σ' : St) (r : Int32), fX10_lots τ a1 a2 = some (τ', r) ∧ fX11_lots σ a1 a2 = some (σ', r) ∧ Rel τ' σ') ∧
  (∀ (τ σ : St), Rel τ σ → ∃ (τ' σ' : St) (r : Int32), fX10_asked τ = some (τ', r) ∧ fX11_asked σ = some (σ', r) ∧ Rel τ' σ') ∧
  (∀ (τ σ : St), Rel τ σ → ∃ (τ' σ' : St) (r : Int64), fX10_upper τ = some (τ', r) ∧ fX11_upper σ = some (σ', r) ∧ Rel τ' σ') ∧
  (∀ (τ σ : St), Rel τ σ → ∃ (τ' σ' : St) (r : Int64), fX10_lower τ = some (τ', r) ∧ fX11_lower σ = some (σ', r) ∧ Rel τ' σ') ∧
  (∀ (τ σ : St), Rel τ σ → ∀ (a1 : Int32) , ∃ (τ' σ' : St) (r : Int32), fX10_count τ a1 = some (τ', r) ∧ fX11_count σ a1 = some (σ', r) ∧ Rel τ' σ') ∧
  (∀ (τ σ : St), Rel τ σ → ∃ (τ' σ' : St) (r : Int32), fX10_finding τ = some (τ', r) ∧ fX11_finding σ = some (σ', r) ∧ Rel τ' σ') ∧
  (∀ (τ σ : St), Rel τ σ → ∀ (a1 : Int32) , ∃ (τ' σ' : St) (r : Int32), fX10_findings τ a1 = some (τ', r) ∧ fX11_findings σ a1 = some (σ', r) ∧ Rel τ' σ') ∧
  (∀ (τ σ : St), Rel τ σ → ∃ (τ' σ' : St) (r : Int64), fX10_digest τ = some (τ', r) ∧ fX11_digest σ = some (σ', r) ∧ Rel τ' σ')
set_option maxHeartbeats 8000000 in
set_option maxRecDepth 100000 in
theorem law_loop {p : Program} {l : Launch} {e : Env} {s : State} {m : MethodId} {below : List Frame} {meth : Method} {c : Code} {b L : Nat} {xs : Nat → Int32} {gC gM : GG} {Rel : St → St → Prop} (hL : L ≤ 3072) (C0 : lw_At p s m meth c b L xs) (hKC : KS gC s) (hKM : KS gM s) (hap : ∀ i j, i < 52 → j < 25 → gC.2.1 i ≠ gM.2.1 j) (hS : StpAll Rel) :
    ∀ (n i : Nat), L < i + n → ∀ (τ σ : St) (H : Heap) (locs : List Loc) (ls : Array Slot), Rel τ σ → HW 52 entC gC (fun q : Nat => s.heap.size ≤ q) s.heap H locs τ → HW 25 entM gM (fun q : Nat => s.heap.size ≤ q) s.heap H locs σ → lv_has ls 4 [(0, .ref b), (1, .ref (gC.2.1 0)), (2, .ref (gM.2.1 0)), (3, .int (nI i))] → i ≤ 3078 → W p l e room_1 s m #[Value.ref b] below meth c H locs 600000 7302250 (lw_Z below #[Value.ref b] s) (F0 m 18 ls []) := by
  obtain ⟨h_row, h_lay, h_at, h_tear, h_copy, h_mean, h_text, h_put, h_fault, h_town, h_colour, h_letter, h_house, h_thing, h_mark, h_buy, h_month, h_trade, h_lend, h_undo, h_keep, h_on, h_next, h_fades, h_later, h_soon, h_feast, h_shop, h_best, h_word, h_kinds, h_monthly, h_test, h_duel, h_odds, h_mid, h_lots, h_asked, h_upper, h_lower, h_count, h_finding, h_findings, h_digest⟩ := hS
  have C := cf_law C0
  obtain ⟨hx, hb, hr, hml, hown, hts, hX, hbl, hlocks, hgv⟩ := id C0
  have hA : ∀ q : Nat, s.heap.size ≤ q → (fun q : Nat => s.heap.size ≤ q) q := fun _ h => h
  have hbA : ¬ (fun q : Nat => s.heap.size ≤ q) b := Nat.not_le.mpr hbl
  intro n
  induction n with
  | zero =>
    intro i hn τ σ H locs ls hR hsC hsM hl hi3
    refine lv_iload_n hx hb dL_law_18 rfl (lv_at hl 3 rfl) ?_
    refine lv_aload_n hx hb dL_law_19 rfl (lv_at hl 0 rfl) ?_
    refine va_slen hx hb hX hbl hbA hsC.2.2 dL_law_20 ?_
    refine lv_bipush (v := 6) hx hb dL_law_21 (by decide) ?_
    refine lv_isub hx hb dL_law_23 ?_
    refine lv_icmp_gt (tgt := 1505) hx hb dL_law_24 (by decide) (fun hc => ?_) (fun hc => ?_)
    · refine lv_iconst (v := 1) hx hb dL_law_1505 (by decide) ?_
      refine va_forget (fun q hq => hsC.2.2.2.2 q hq) ?_
      exact lw_ret hx hb hr hlocks dL_law_1506
    · exact absurd (lw_gt (by omega) hL hi3) hc
  | succ n ih =>
    intro i hn τ σ H locs ls hR hsC hsM hl hi3
    refine lv_iload_n hx hb dL_law_18 rfl (lv_at hl 3 rfl) ?_
    refine lv_aload_n hx hb dL_law_19 rfl (lv_at hl 0 rfl) ?_
    refine va_slen hx hb hX hbl hbA hsC.2.2 dL_law_20 ?_
    refine lv_bipush (v := 6) hx hb dL_law_21 (by decide) ?_
    refine lv_isub hx hb dL_law_23 ?_
    refine lv_icmp_gt (tgt := 1505) hx hb dL_law_24 (by decide) (fun hc => ?_) (fun hc => ?_)
    · refine lv_iconst (v := 1) hx hb dL_law_1505 (by decide) ?_
      refine va_forget (fun q hq => hsC.2.2.2.2 q hq) ?_
      exact lw_ret hx hb hr hlocks dL_law_1506
    · have hi : i + 6 ≤ L := by
        rcases Nat.lt_or_ge L (i + 6) with q | q
        · exact absurd (lw_gt q hL hi3) hc
        · exact q
      have hk : ∀ (τ σ : St) (H : Heap) (locs : List Loc) (ls : Array Slot), Rel τ σ → HW 52 entC gC (fun q : Nat => s.heap.size ≤ q) s.heap H locs τ → HW 25 entM gM (fun q : Nat => s.heap.size ≤ q) s.heap H locs σ → lv_has ls 4 [(0, .ref b), (1, .ref (gC.2.1 0)), (2, .ref (gM.2.1 0)), (3, .int (nI i))] → W p l e room_1 s m #[Value.ref b] below meth c H locs 600000 7302250 (lw_Z below #[Value.ref b] s) (F0 m 1499 ls []) := by
        intro τ σ H locs ls hR hsC hsM hl
        refine lv_iinc (v := nI (i + 6)) (lv' := [(3, .int (nI (i + 6))), (0, .ref b), (1, .ref (gC.2.1 0)), (2, .ref (gM.2.1 0))]) hx hb dL_law_1499 hl (k := 3) rfl (nI_add i 6) (by decide) rfl (fun ls hl => ?_)
        refine lv_goto (tgt := 18) hx hb dL_law_1502 (by decide) ?_
        exact ih (i + 6) (by omega) τ σ H locs ls hR hsC hsM (lv_sub hl [1, 2, 3, 0] rfl) (by omega)
      refine lv_aload_n hx hb dL_law_27 rfl (lv_at hl 0 rfl) ?_
      refine lv_iload_n hx hb dL_law_28 rfl (lv_at hl 3 rfl) ?_
      refine va_sld hx hb hX hbl hbA hsC.2.2 (vp_in_nI (by omega) (by omega)) dL_law_29 ?_
      refine lv_bipush (v := 63) hx hb dL_law_30 (by decide) ?_
      refine lv_iand hx hb dL_law_32 ?_
      generalize xs (nI i).toNatClampNeg &&& 63 = x
      by_cases hn0 : x = 0
      · refine lv_tableIn (off := 191) (tgt := 224) hx hb dL_law_33 (by rw [hn0]; decide) (by rw [hn0]; decide) (by rw [hn0]; decide) (by decide) ?_
        exact lc_row hL C0 hKC hKM hap h_row hR hsC hsM hi hl hk
      by_cases hn1 : x = 1
      · refine lv_tableIn (off := 224) (tgt := 257) hx hb dL_law_33 (by rw [hn1]; decide) (by rw [hn1]; decide) (by rw [hn1]; decide) (by decide) ?_
        exact lc_lay hL C0 hKC hKM hap h_lay hR hsC hsM hi hl hk
      by_cases hn2 : x = 2
      · refine lv_tableIn (off := 267) (tgt := 300) hx hb dL_law_33 (by rw [hn2]; decide) (by rw [hn2]; decide) (by rw [hn2]; decide) (by decide) ?_
        exact lc_at hL C0 hKC hKM hap h_at hR hsC hsM hi hl hk
      by_cases hn3 : x = 3
      · refine lv_tableIn (off := 300) (tgt := 333) hx hb dL_law_33 (by rw [hn3]; decide) (by rw [hn3]; decide) (by rw [hn3]; decide) (by decide) ?_
        exact lc_tear hL C0 hKC hKM hap h_tear hR hsC hsM hi hl hk
      by_cases hn4 : x = 4
      · refine lv_tableIn (off := 323) (tgt := 356) hx hb dL_law_33 (by rw [hn4]; decide) (by rw [hn4]; decide) (by rw [hn4]; decide) (by decide) ?_
        exact lc_copy hL C0 hKC hKM hap h_copy hR hsC hsM hi hl hk
      by_cases hn5 : x = 5
      · refine lv_tableIn (off := 386) (tgt := 419) hx hb dL_law_33 (by rw [hn5]; decide) (by rw [hn5]; decide) (by rw [hn5]; decide) (by decide) ?_
        exact lc_mean hL C0 hKC hKM hap h_mean hR hsC hsM hi hl hk
      by_cases hn6 : x = 6
      · refine lv_tableIn (off := 409) (tgt := 442) hx hb dL_law_33 (by rw [hn6]; decide) (by rw [hn6]; decide) (by rw [hn6]; decide) (by decide) ?_
        exact lc_text hL C0 hKC hKM hap h_text hR hsC hsM hi hl hk
      by_cases hn7 : x = 7
      · refine lv_tableIn (off := 442) (tgt := 475) hx hb dL_law_33 (by rw [hn7]; decide) (by rw [hn7]; decide) (by rw [hn7]; decide) (by decide) ?_
        exact lc_put hL C0 hKC hKM hap h_put hR hsC hsM hi hl hk
      by_cases hn8 : x = 8
      · refine lv_tableIn (off := 485) (tgt := 518) hx hb dL_law_33 (by rw [hn8]; decide) (by rw [hn8]; decide) (by rw [hn8]; decide) (by decide) ?_
        exact lc_fault hL C0 hKC hKM hap h_fault hR hsC hsM hi hl hk
      by_cases hn9 : x = 9
      · refine lv_tableIn (off := 508) (tgt := 541) hx hb dL_law_33 (by rw [hn9]; decide) (by rw [hn9]; decide) (by rw [hn9]; decide) (by decide) ?_
        exact lc_town hL C0 hKC hKM hap h_town hR hsC hsM hi hl hk
      by_cases hn10 : x = 10
      · refine lv_tableIn (off := 531) (tgt := 564) hx hb dL_law_33 (by rw [hn10]; decide) (by rw [hn10]; decide) (by rw [hn10]; decide) (by decide) ?_
        exact lc_colour hL C0 hKC hKM hap h_colour hR hsC hsM hi hl hk
      by_cases hn11 : x = 11
      · refine lv_tableIn (off := 564) (tgt := 597) hx hb dL_law_33 (by rw [hn11]; decide) (by rw [hn11]; decide) (by rw [hn11]; decide) (by decide) ?_
        exact lc_letter hL C0 hKC hKM hap h_letter hR hsC hsM hi hl hk
      by_cases hn12 : x = 12
      · refine lv_tableIn (off := 597) (tgt := 630) hx hb dL_law_33 (by rw [hn12]; decide) (by rw [hn12]; decide) (by rw [hn12]; decide) (by decide) ?_
        exact lc_house hL C0 hKC hKM hap h_house hR hsC hsM hi hl hk
      by_cases hn13 : x = 13
      · refine lv_tableIn (off := 630) (tgt := 663) hx hb dL_law_33 (by rw [hn13]; decide) (by rw [hn13]; decide) (by rw [hn13]; decide) (by decide) ?_
        exact lc_thing hL C0 hKC hKM hap h_thing hR hsC hsM hi hl hk
      by_cases hn14 : x = 14
      · refine lv_tableIn (off := 663) (tgt := 696) hx hb dL_law_33 (by rw [hn14]; decide) (by rw [hn14]; decide) (by rw [hn14]; decide) (by decide) ?_
        exact lc_mark hL C0 hKC hKM hap h_mark hR hsC hsM hi hl hk
      by_cases hn15 : x = 15
      · refine lv_tableIn (off := 696) (tgt := 729) hx hb dL_law_33 (by rw [hn15]; decide) (by rw [hn15]; decide) (by rw [hn15]; decide) (by decide) ?_
        exact lc_buy hL C0 hKC hKM hap h_buy hR hsC hsM hi hl hk
      by_cases hn16 : x = 16
      · refine lv_tableIn (off := 729) (tgt := 762) hx hb dL_law_33 (by rw [hn16]; decide) (by rw [hn16]; decide) (by rw [hn16]; decide) (by decide) ?_
        exact lc_month hL C0 hKC hKM hap h_month hR hsC hsM hi hl hk
      by_cases hn17 : x = 17
      · refine lv_tableIn (off := 742) (tgt := 775) hx hb dL_law_33 (by rw [hn17]; decide) (by rw [hn17]; decide) (by rw [hn17]; decide) (by decide) ?_
        exact lc_trade hL C0 hKC hKM hap h_trade hR hsC hsM hi hl hk
      by_cases hn18 : x = 18
      · refine lv_tableIn (off := 795) (tgt := 828) hx hb dL_law_33 (by rw [hn18]; decide) (by rw [hn18]; decide) (by rw [hn18]; decide) (by decide) ?_
        exact lc_lend hL C0 hKC hKM hap h_lend hR hsC hsM hi hl hk
      by_cases hn19 : x = 19
      · refine lv_tableIn (off := 838) (tgt := 871) hx hb dL_law_33 (by rw [hn19]; decide) (by rw [hn19]; decide) (by rw [hn19]; decide) (by decide) ?_
        exact lc_undo hL C0 hKC hKM hap h_undo hR hsC hsM hi hl hk
      by_cases hn20 : x = 20
      · refine lv_tableIn (off := 861) (tgt := 894) hx hb dL_law_33 (by rw [hn20]; decide) (by rw [hn20]; decide) (by rw [hn20]; decide) (by decide) ?_
        exact lc_keep hL C0 hKC hKM hap h_keep hR hsC hsM hi hl hk
      by_cases hn21 : x = 21
      · refine lv_tableIn (off := 884) (tgt := 917) hx hb dL_law_33 (by rw [hn21]; decide) (by rw [hn21]; decide) (by rw [hn21]; decide) (by decide) ?_
        exact lc_on hL C0 hKC hKM hap h_on hR hsC hsM hi hl hk
      by_cases hn22 : x = 22
      · refine lv_tableIn (off := 907) (tgt := 940) hx hb dL_law_33 (by rw [hn22]; decide) (by rw [hn22]; decide) (by rw [hn22]; decide) (by decide) ?_
        exact lc_next hL C0 hKC hKM hap h_next hR hsC hsM hi hl hk
      by_cases hn23 : x = 23
      · refine lv_tableIn (off := 920) (tgt := 953) hx hb dL_law_33 (by rw [hn23]; decide) (by rw [hn23]; decide) (by rw [hn23]; decide) (by decide) ?_
        exact lc_fades hL C0 hKC hKM hap h_fades hR hsC hsM hi hl hk
      by_cases hn24 : x = 24
      · refine lv_tableIn (off := 943) (tgt := 976) hx hb dL_law_33 (by rw [hn24]; decide) (by rw [hn24]; decide) (by rw [hn24]; decide) (by decide) ?_
        exact lc_later hL C0 hKC hKM hap h_later hR hsC hsM hi hl hk
      by_cases hn25 : x = 25
      · refine lv_tableIn (off := 976) (tgt := 1009) hx hb dL_law_33 (by rw [hn25]; decide) (by rw [hn25]; decide) (by rw [hn25]; decide) (by decide) ?_
        exact lc_soon hL C0 hKC hKM hap h_soon hR hsC hsM hi hl hk
      by_cases hn26 : x = 26
      · refine lv_tableIn (off := 1009) (tgt := 1042) hx hb dL_law_33 (by rw [hn26]; decide) (by rw [hn26]; decide) (by rw [hn26]; decide) (by decide) ?_
        exact lc_feast hL C0 hKC hKM hap h_feast hR hsC hsM hi hl hk
      by_cases hn27 : x = 27
      · refine lv_tableIn (off := 1042) (tgt := 1075) hx hb dL_law_33 (by rw [hn27]; decide) (by rw [hn27]; decide) (by rw [hn27]; decide) (by decide) ?_
        exact lc_shop hL C0 hKC hKM hap h_shop hR hsC hsM hi hl hk
      by_cases hn28 : x = 28
      · refine lv_tableIn (off := 1075) (tgt := 1108) hx hb dL_law_33 (by rw [hn28]; decide) (by rw [hn28]; decide) (by rw [hn28]; decide) (by decide) ?_
        exact lc_best hL C0 hKC hKM hap h_best hR hsC hsM hi hl hk
      by_cases hn29 : x = 29
      · refine lv_tableIn (off := 1098) (tgt := 1131) hx hb dL_law_33 (by rw [hn29]; decide) (by rw [hn29]; decide) (by rw [hn29]; decide) (by decide) ?_
        exact lc_word hL C0 hKC hKM hap h_word hR hsC hsM hi hl hk
      by_cases hn30 : x = 30
      · refine lv_tableIn (off := 1121) (tgt := 1154) hx hb dL_law_33 (by rw [hn30]; decide) (by rw [hn30]; decide) (by rw [hn30]; decide) (by decide) ?_
        exact lc_kinds hL C0 hKC hKM hap h_kinds hR hsC hsM hi hl hk
      by_cases hn31 : x = 31
      · refine lv_tableIn (off := 1154) (tgt := 1187) hx hb dL_law_33 (by rw [hn31]; decide) (by rw [hn31]; decide) (by rw [hn31]; decide) (by decide) ?_
        exact lc_monthly hL C0 hKC hKM hap h_monthly hR hsC hsM hi hl hk
      by_cases hn32 : x = 32
      · refine lv_tableIn (off := 1187) (tgt := 1220) hx hb dL_law_33 (by rw [hn32]; decide) (by rw [hn32]; decide) (by rw [hn32]; decide) (by decide) ?_
        exact lc_test hL C0 hKC hKM hap h_test hR hsC hsM hi hl hk
      by_cases hn33 : x = 33
      · refine lv_tableIn (off := 1220) (tgt := 1253) hx hb dL_law_33 (by rw [hn33]; decide) (by rw [hn33]; decide) (by rw [hn33]; decide) (by decide) ?_
        exact lc_duel hL C0 hKC hKM hap h_duel hR hsC hsM hi hl hk
      by_cases hn34 : x = 34
      · refine lv_tableIn (off := 1243) (tgt := 1276) hx hb dL_law_33 (by rw [hn34]; decide) (by rw [hn34]; decide) (by rw [hn34]; decide) (by decide) ?_
        exact lc_odds hL C0 hKC hKM hap h_odds hR hsC hsM hi hl hk
      by_cases hn35 : x = 35
      · refine lv_tableIn (off := 1286) (tgt := 1319) hx hb dL_law_33 (by rw [hn35]; decide) (by rw [hn35]; decide) (by rw [hn35]; decide) (by decide) ?_
        exact lc_mid hL C0 hKC hKM hap h_mid hR hsC hsM hi hl hk
      by_cases hn36 : x = 36
      · refine lv_tableIn (off := 1319) (tgt := 1352) hx hb dL_law_33 (by rw [hn36]; decide) (by rw [hn36]; decide) (by rw [hn36]; decide) (by decide) ?_
        exact lc_lots hL C0 hKC hKM hap h_lots hR hsC hsM hi hl hk
      by_cases hn37 : x = 37
      · refine lv_tableIn (off := 1352) (tgt := 1385) hx hb dL_law_33 (by rw [hn37]; decide) (by rw [hn37]; decide) (by rw [hn37]; decide) (by decide) ?_
        exact lc_asked hL C0 hKC hKM hap h_asked hR hsC hsM hi hl hk
      by_cases hn38 : x = 38
      · refine lv_tableIn (off := 1365) (tgt := 1398) hx hb dL_law_33 (by rw [hn38]; decide) (by rw [hn38]; decide) (by rw [hn38]; decide) (by decide) ?_
        exact lc_upper hL C0 hKC hKM hap h_upper hR hsC hsM hi hl hk
      by_cases hn39 : x = 39
      · refine lv_tableIn (off := 1379) (tgt := 1412) hx hb dL_law_33 (by rw [hn39]; decide) (by rw [hn39]; decide) (by rw [hn39]; decide) (by decide) ?_
        exact lc_lower hL C0 hKC hKM hap h_lower hR hsC hsM hi hl hk
      by_cases hn40 : x = 40
      · refine lv_tableIn (off := 1393) (tgt := 1426) hx hb dL_law_33 (by rw [hn40]; decide) (by rw [hn40]; decide) (by rw [hn40]; decide) (by decide) ?_
        exact lc_count hL C0 hKC hKM hap h_count hR hsC hsM hi hl hk
      by_cases hn41 : x = 41
      · refine lv_tableIn (off := 1416) (tgt := 1449) hx hb dL_law_33 (by rw [hn41]; decide) (by rw [hn41]; decide) (by rw [hn41]; decide) (by decide) ?_
        exact lc_finding hL C0 hKC hKM hap h_finding hR hsC hsM hi hl hk
      by_cases hn42 : x = 42
      · refine lv_tableIn (off := 1429) (tgt := 1462) hx hb dL_law_33 (by rw [hn42]; decide) (by rw [hn42]; decide) (by rw [hn42]; decide) (by decide) ?_
        exact lc_findings hL C0 hKC hKM hap h_findings hR hsC hsM hi hl hk
      by_cases hn43 : x = 43
      · refine lv_tableIn (off := 1452) (tgt := 1485) hx hb dL_law_33 (by rw [hn43]; decide) (by rw [hn43]; decide) (by rw [hn43]; decide) (by decide) ?_
        exact lc_digest hL C0 hKC hKM hap h_digest hR hsC hsM hi hl hk
      exact lv_tableOut (tgt := 1499) hx hb dL_law_33 (by have q0 := sw_n 0 hn0 (by decide); have q1 := sw_n 1 hn1 (by decide); have q2 := sw_n 2 hn2 (by decide); have q3 := sw_n 3 hn3 (by decide); have q4 := sw_n 4 hn4 (by decide); have q5 := sw_n 5 hn5 (by decide); have q6 := sw_n 6 hn6 (by decide); have q7 := sw_n 7 hn7 (by decide); have q8 := sw_n 8 hn8 (by decide); have q9 := sw_n 9 hn9 (by decide); have q10 := sw_n 10 hn10 (by decide); have q11 := sw_n 11 hn11 (by decide); have q12 := sw_n 12 hn12 (by decide); have q13 := sw_n 13 hn13 (by decide); have q14 := sw_n 14 hn14 (by decide); have q15 := sw_n 15 hn15 (by decide); have q16 := sw_n 16 hn16 (by decide); have q17 := sw_n 17 hn17 (by decide); have q18 := sw_n 18 hn18 (by decide); have q19 := sw_n 19 hn19 (by decide); have q20 := sw_n 20 hn20 (by decide); have q21 := sw_n 21 hn21 (by decide); have q22 := sw_n 22 hn22 (by decide); have q23 := sw_n 23 hn23 (by decide); have q24 := sw_n 24 hn24 (by decide); have q25 := sw_n 25 hn25 (by decide); have q26 := sw_n 26 hn26 (by decide); have q27 := sw_n 27 hn27 (by decide); have q28 := sw_n 28 hn28 (by decide); have q29 := sw_n 29 hn29 (by decide); have q30 := sw_n 30 hn30 (by decide); have q31 := sw_n 31 hn31 (by decide); have q32 := sw_n 32 hn32 (by decide); have q33 := sw_n 33 hn33 (by decide); have q34 := sw_n 34 hn34 (by decide); have q35 := sw_n 35 hn35 (by decide); have q36 := sw_n 36 hn36 (by decide); have q37 := sw_n 37 hn37 (by decide); have q38 := sw_n 38 hn38 (by decide); have q39 := sw_n 39 hn39 (by decide); have q40 := sw_n 40 hn40 (by decide); have q41 := sw_n 41 hn41 (by decide); have q42 := sw_n 42 hn42 (by decide); have q43 := sw_n 43 hn43 (by decide); omega) (by decide) (hk τ σ H locs ls hR hsC hsM hl)
