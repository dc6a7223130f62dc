/-! copy() -/
theorem i32b (x : Int32) : -2147483648 ≤ x.toInt ∧ x.toInt < 2147483648 := ⟨x.le_toInt, x.toInt_lt⟩
theorem i64add (x y : Int32) : (x.toInt64 + y.toInt64).toInt = x.toInt + y.toInt := by
  have h1 := i32b x
  have h2 := i32b y
  rw [Int64.toInt_add, Int32.toInt_toInt64, Int32.toInt_toInt64]
  exact Int.bmod_eq_of_le (by omega) (by omega)
def sp (z : Nat) (i n : Int32) : Bool := decide (0 ≤ i.toInt ∧ 0 ≤ n.toInt ∧ i.toInt + n.toInt ≤ z)
theorem span_ev (τ : St) {r z : Nat} (hr : r < 6) (hz : z ≤ 40) (h : τ.1 3 r = nI z) (i n : Int32) : fX7_hasSpan_1 τ (nI r) i n = some (τ, if sp z i n then 1 else 0) := by
  have e0 : (0 : Int32).toInt = 0 := rfl
  have ez : (nI z).toInt = z := nI_toInt (by omega)
  unfold fX7_hasSpan_1 sp
  by_cases h0 : i < 0
  · rw [if_pos h0, if_neg]
    rw [i_lt] at h0
    simp only [decide_eq_true_eq]
    omega
  · rw [if_neg h0, rdC (show r < LC 3 from hr), h]
    by_cases h1 : nI z < i
    · rw [if_pos h1, if_neg]
      rw [i_lt] at h1
      by_cases hn : 0 ≤ n.toInt
      · simp only [decide_eq_true_eq]
        omega
      · simp only [decide_eq_true_eq]
        omega
    · rw [if_neg h1]
      by_cases h2 : n < 0
      · rw [if_pos h2, if_neg]
        rw [i_lt] at h2
        simp only [decide_eq_true_eq]
        omega
      · rw [if_neg h2, rdC (show r < LC 3 from hr), h]
        rw [i_lt] at h0 h1 h2
        obtain ⟨j, -, hj, rfl⟩ := between (x := i) (a := 0) (n := z) ⟨by omega, by omega⟩ (by omega)
        have ej : (nI j).toInt = j := nI_toInt (by omega)
        rw [pk_sub (by omega)]
        have es : (nI (z - j)).toInt = ((z - j : Nat) : Int) := nI_toInt (by omega)
        by_cases h3 : nI (z - j) < n
        · rw [if_pos h3, if_neg]
          rw [i_lt, es] at h3
          simp only [decide_eq_true_eq]
          omega
        · rw [if_neg h3, if_pos]
          rw [i_lt, es] at h3
          simp only [decide_eq_true_eq]
          omega
/-- the reference's loop, forward or backward: as if taken ahead -/
theorem copyM {σ : St} {r s i j n : Nat} (hr : r < 6) (hs : s < 6) (hi : i + n ≤ 40) (hj : j + n ≤ 40) (k : St → Int32 → Option (St × Int32)) : fX11_copy_L104 (nI r) (nI i) (nI s) (nI j) (nI n) 10000 σ 0 k = k (sc σ 2 (fun q => if 40 * s + j ≤ q ∧ q < 40 * s + j + n then σ.1 2 (40 * r + i + (q - (40 * s + j))) else σ.1 2 q)) (nI n) := by
  by_cases hd : j ≤ i
  · have key : ∀ (m a fuel : Nat) (ρ : St), a + m = n → m < fuel → (∀ q, ρ.1 2 q = if 40 * s + j ≤ q ∧ q < 40 * s + j + a then σ.1 2 (40 * r + i + (q - (40 * s + j))) else σ.1 2 q) → (∀ k, k ≠ 2 → ρ.1 k = σ.1 k) → ρ.2 = σ.2 → fX11_copy_L104 (nI r) (nI i) (nI s) (nI j) (nI n) fuel ρ (nI a) k = k (sc σ 2 (fun q => if 40 * s + j ≤ q ∧ q < 40 * s + j + n then σ.1 2 (40 * r + i + (q - (40 * s + j))) else σ.1 2 q)) (nI n) := by
      intro m
      induction m with
      | zero =>
        intro a fuel ρ ha hf h1 h2 h3
        match fuel, hf with
        | f + 1, _ =>
          rw [fX11_copy_L104, if_pos (nI_le (by omega) (by omega)), show a = n by omega]
          congr 1
          refine st_ext (fun x q => ?_) (fun x q => by rw [h3]; rfl)
          rw [sc_11]
          by_cases hx : x = 2
          · subst hx
            rw [if_pos rfl, h1 q, show a = n by omega]
          · rw [if_neg hx, h2 x hx]
      | succ m ih =>
        intro a fuel ρ ha hf h1 h2 h3
        match fuel, hf with
        | f + 1, hf =>
          rw [fX11_copy_L104, if_neg (nI_ge (by omega) (by omega)), if_pos (nI_le hd (by omega)), pv_s, L_40, pk_mul, pk_mul, nI_add, nI_add, nI_add, nI_add, rdM (show 40 * r + i + a < LM 2 by show _ < 240; omega), wrM (show 40 * s + j + a < LM 2 by show _ < 240; omega), nI_1]
          refine ih (a + 1) f _ (by omega) (by omega) (fun q => ?_) (fun k hk => (su_o hk).trans (h2 k hk)) h3
          rw [su_11]
          by_cases hq : q = 40 * s + j + a
          · subst hq
            rw [if_pos ⟨rfl, rfl⟩, if_pos (by omega), h1, if_neg (by omega), show 40 * r + i + (40 * s + j + a - (40 * s + j)) = 40 * r + i + a by omega]
          · rw [if_neg (fun e => hq e.2), h1]
            by_cases h4 : 40 * s + j ≤ q ∧ q < 40 * s + j + a
            · rw [if_pos h4, if_pos (by omega)]
            · rw [if_neg h4, if_neg (by omega)]
    exact key n 0 10000 σ (by omega) (by omega) (fun q => by rw [if_neg (by omega)]) (fun _ _ => rfl) rfl
  · have key : ∀ (m a fuel : Nat) (ρ : St), a + m = n → m < fuel → (∀ q, ρ.1 2 q = if 40 * s + j + (n - a) ≤ q ∧ q < 40 * s + j + n then σ.1 2 (40 * r + i + (q - (40 * s + j))) else σ.1 2 q) → (∀ k, k ≠ 2 → ρ.1 k = σ.1 k) → ρ.2 = σ.2 → fX11_copy_L104 (nI r) (nI i) (nI s) (nI j) (nI n) fuel ρ (nI a) k = k (sc σ 2 (fun q => if 40 * s + j ≤ q ∧ q < 40 * s + j + n then σ.1 2 (40 * r + i + (q - (40 * s + j))) else σ.1 2 q)) (nI n) := by
      intro m
      induction m with
      | zero =>
        intro a fuel ρ ha hf h1 h2 h3
        match fuel, hf with
        | f + 1, _ =>
          rw [fX11_copy_L104, if_pos (nI_le (by omega) (by omega)), show a = n by omega]
          congr 1
          refine st_ext (fun x q => ?_) (fun x q => by rw [h3]; rfl)
          rw [sc_11]
          by_cases hx : x = 2
          · subst hx
            rw [if_pos rfl, h1 q, show 40 * s + j + (n - a) = 40 * s + j by omega]
          · rw [if_neg hx, h2 x hx]
      | succ m ih =>
        intro a fuel ρ ha hf h1 h2 h3
        match fuel, hf with
        | f + 1, hf =>
          rw [fX11_copy_L104, if_neg (nI_ge (by omega) (by omega)), if_neg (nI_ge (by omega) (by omega)), pv_s, L_1, pk_sub (by omega), pk_sub (by omega), L_40, pk_mul, pk_mul, nI_add, nI_add, nI_add, nI_add, rdM (show 40 * r + i + (n - 1 - a) < LM 2 by show _ < 240; omega), wrM (show 40 * s + j + (n - 1 - a) < LM 2 by show _ < 240; omega), nI_add]
          refine ih (a + 1) f _ (by omega) (by omega) (fun q => ?_) (fun k hk => (su_o hk).trans (h2 k hk)) h3
          rw [su_11]
          by_cases hq : q = 40 * s + j + (n - 1 - a)
          · subst hq
            rw [if_pos ⟨rfl, rfl⟩, if_pos (by omega), h1, if_neg (by omega), show 40 * r + i + (40 * s + j + (n - 1 - a) - (40 * s + j)) = 40 * r + i + (n - 1 - a) by omega]
          · rw [if_neg (fun e => hq e.2), h1]
            by_cases h4 : 40 * s + j + (n - a) ≤ q ∧ q < 40 * s + j + n
            · rw [if_pos h4, if_pos (by omega)]
            · rw [if_neg h4, if_neg (by omega)]
    exact key n 0 10000 σ (by omega) (by omega) (fun q => by rw [if_neg (by omega)]) (fun _ _ => rfl) rfl
theorem cmp_le (x y : Int64) : (lg_cmp x y ≤ 0) = ¬ y < x := propext ⟨fun h q => by have := (cmp_gt x y).mpr q; rw [i_le] at h; rw [i_lt] at this; omega, fun h => Int32.not_lt.mp (fun q => h ((cmp_gt x y).mp q))⟩
theorem moveC {τ : St} {r s i j n : Nat} (hr : r < 6) (hs : s < 6) (hi : i + n ≤ 40) (hj : j + n ≤ 40) : fX7_move_1 τ (nI r) (nI i) (nI s) (nI j) (nI n) = some (sc τ (4 + s) (va_cpy (τ.1 (4 + r)) (τ.1 (4 + s)) i j n), ()) := by
  have h1 := LC_row hr
  have h2 := LC_row hs
  unfold fX7_move_1
  rw [gd_inb hr (by omega), gd_inb hs (by omega), nI_clamp (by omega), nI_clamp (by omega), nI_clamp (by omega), nI_clamp (by omega), nI_clamp (by omega), gd_t]
  · rfl
  · unfold arrOk
    rw [nI_clamp (by omega), nI_clamp (by omega), nI_clamp (by omega), h1, h2]
    simp only [Bool.and_eq_true, decide_eq_true_eq]
    exact ⟨⟨⟨⟨⟨⟨nI_pos (by omega), nI_pos (by omega)⟩, nI_pos (by omega)⟩, by omega⟩, by omega⟩, by omega⟩, by omega⟩
theorem s_copy (τ σ : St) (h : Rel τ σ) (a1 a2 a3 a4 a5 : Int32) : ∃ (τ' σ' : St) (r : Int32), fX10_copy τ a1 a2 a3 a4 a5 = some (τ', r) ∧ fX11_copy σ a1 a2 a3 a4 a5 = some (σ', r) ∧ Rel τ' σ' := by
  unfold fX10_copy fX11_copy
  rcases ix_cases a1 6 (by omega) with ⟨r, hr, rfl⟩ | hbad
  · rw [isOne1_yes τ hr, isRow_yes σ hr]
    simp only [cl_s, o10, if_false]
    rcases ix_cases a3 6 (by omega) with ⟨s, hs, rfl⟩ | hbad
    · rw [isOne1_yes τ hs, isRow_yes σ hs]
      simp only [cl_s, o10, if_false]
      by_cases h5 : 0 ≤ a5
      · rw [if_pos h5, if_pos h5]
        obtain ⟨g1, g2, g3⟩ := h.2.1 r hr
        obtain ⟨f1, f2, f3⟩ := h.2.1 s hs
        have nth : ∃ (τ' σ' : St) (r : Int32), cl (fX10_refuse τ 1) (fun σ9 r10 => some (σ9, r10)) = some (τ', r) ∧ cl (fX11_found σ 1) (fun σ7 r8 => some (σ7, r8)) = some (σ', r) ∧ Rel τ' σ' := by
          rw [show (1 : Int32) = nI 1 from rfl, refu_ev τ (by omega), fnd_ev σ (by omega)]
          exact ⟨_, _, _, rfl, rfl, h.found (by omega)⟩
        have bey : ∃ (τ' σ' : St) (r : Int32), cl (fX10_refuse τ 2) (fun σ9 r10 => some (σ9, r10)) = some (τ', r) ∧ cl (fX11_found σ 2) (fun σ7 r8 => some (σ7, r8)) = some (σ', r) ∧ Rel τ' σ' := by
          rw [show (2 : Int32) = nI 2 from rfl, refu_ev τ (by omega), fnd_ev σ (by omega)]
          exact ⟨_, _, _, rfl, rfl, h.found (by omega)⟩
        rw [rdM (show r < LM 1 from hr)]
        rcases g2 with hm | ⟨z, hz, ez⟩
        · rw [miss1_y τ hr (g1.trans hm), hm]
          simp only [cl_s, jn_s, o10, if_false]
          rw [if_pos (show (-1 : Int32) < 0 by decide)]
          exact nth
        · rw [miss1_n τ hr (by omega) (g1.trans ez), ez]
          simp only [cl_s, jn_s, if_true]
          rw [if_neg (nI_pos (by omega)), rdM (show s < LM 1 from hs)]
          rcases f2 with hm | ⟨y, hy, ey⟩
          · rw [miss1_y τ hs (f1.trans hm), hm, if_neg (show ¬ (0 : Int32) ≤ -1 by decide)]
            simp only [cl_s, o10, if_false]
            exact nth
          · rw [miss1_n τ hs (by omega) (f1.trans ey), ey, if_pos (nI_pos' (by omega))]
            simp only [cl_s, if_true]
            rw [span_ev τ hr hz (g1.trans ez), rdM (show r < LM 1 from hr), ez, rdM (show s < LM 1 from hs), ey]
            simp only [cl_s]
            rw [span_ev τ hs hy (f1.trans ey)]
            simp only [cl_s, cmp_gt, cmp_le, Int64.lt_iff_toInt_lt, i64add, Int32.toInt_toInt64]
            rw [nI_toInt (n := z) (by omega), nI_toInt (n := y) (by omega)]
            have e0 : (0 : Int32).toInt = 0 := rfl
            have q5 : 0 ≤ a5.toInt := by rw [i_le] at h5; exact h5
            by_cases c1 : sp z a2 a5 = true
            · by_cases c2 : sp y a4 a5 = true
              · unfold sp at c1 c2
                simp only [decide_eq_true_eq] at c1 c2
                have c1' : sp z a2 a5 = true := by unfold sp; simp only [decide_eq_true_eq]; exact c1
                have c2' : sp y a4 a5 = true := by unfold sp; simp only [decide_eq_true_eq]; exact c2
                rw [c1', c2']
                simp only [if_true, o10, if_false]
                rw [if_neg (show ¬ a2 < 0 by rw [i_lt]; omega), if_neg (show ¬ a4 < 0 by rw [i_lt]; omega), if_neg (by omega), if_pos (by omega)]
                obtain ⟨i, -, hi, rfl⟩ := between (x := a2) (a := 0) (n := 40) ⟨by omega, by omega⟩ (by omega)
                obtain ⟨j, -, hj, rfl⟩ := between (x := a4) (a := 0) (n := 40) ⟨by omega, by omega⟩ (by omega)
                obtain ⟨n, -, hn, rfl⟩ := between (x := a5) (a := 0) (n := 40) ⟨by omega, by omega⟩ (by omega)
                rw [nI_toInt (by omega), nI_toInt (by omega)] at c1 c2
                rw [moveC hr hs (by omega) (by omega), copyM hr hs (by omega) (by omega)]
                refine ⟨_, _, _, rfl, rfl, h.rows hs (nI y) (Or.inr ⟨y, hy, rfl⟩) (fun q => if j ≤ q ∧ q < j + n then σ.1 2 (40 * r + (i + (q - j))) else σ.1 2 (40 * s + q)) (fun k a b => sc_o b) rfl (fun k a b => sc_o b) rfl (fun a ha => ?_) ?_ (fun q hq => ?_) (fun a ha => ?_) ?_ (fun a q ha hq hne => ?_) (fun q hq => ?_)⟩
                · rw [sc_o (by omega)]
                · rw [sc_o (by omega)]; exact f1.trans ey
                · rw [sc_11, if_pos rfl]
                  by_cases w : j ≤ q ∧ q < j + n
                  · rw [pk_cpy_in w.1 w.2, if_pos w]
                    exact g3 _ (by omega)
                  · rw [pk_cpy_out (by omega), if_neg w]
                    exact f3 q hq
                · rw [sc_o (by omega)]
                · rw [sc_o (by omega)]; exact ey
                · rw [sc_11, if_pos rfl, if_neg (by omega)]
                · rw [sc_11, if_pos rfl]
                  by_cases w : j ≤ q ∧ q < j + n
                  · rw [if_pos w, if_pos (by omega), show 40 * r + i + (40 * s + q - (40 * s + j)) = 40 * r + (i + (q - j)) by omega]
                  · rw [if_neg w, if_neg (by omega)]
              · rw [c1, if_neg c2]
                simp only [if_true, o10, if_false]
                unfold sp at c1 c2
                simp only [decide_eq_true_eq] at c1 c2
                by_cases d2 : a4 < 0
                · rw [if_neg (show ¬ a2 < 0 by rw [i_lt]; omega), if_pos d2]
                  exact bey
                · rw [i_lt] at d2
                  rw [if_neg (show ¬ a2 < 0 by rw [i_lt]; omega), if_neg (show ¬ a4 < 0 by rw [i_lt]; exact d2), if_neg (by omega), if_neg (by omega)]
                  exact bey
            · rw [if_neg c1]
              simp only [if_true]
              unfold sp at c1
              simp only [decide_eq_true_eq] at c1
              by_cases d1 : a2 < 0
              · rw [if_pos d1]
                exact bey
              · rw [if_neg d1]
                rw [i_lt] at d1
                by_cases d2 : a4 < 0
                · rw [if_pos d2]
                  exact bey
                · rw [if_neg d2, if_pos (by omega)]
                  exact bey
      · rw [if_neg h5, if_neg h5, show (5 : Int32) = nI 5 from rfl, refu_ev τ (by omega), fnd_ev σ (by omega)]
        exact ⟨_, _, _, rfl, rfl, h.found (by omega)⟩
    · rw [isOne1_no τ hbad, isRow_no σ hbad]
      exact ⟨τ, σ, _, rfl, rfl, h⟩
  · rw [isOne1_no τ hbad, isRow_no σ hbad]
    exact ⟨τ, σ, _, rfl, rfl, h⟩
