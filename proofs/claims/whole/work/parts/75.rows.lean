/-! loops that write a stretch; loops that only reckon -/
theorem wloop {β : Type} (Lp : Nat → St → Int32 → (St → Int32 → Option β) → Option β) (c b e : Nat) (x : Nat → Int32) (hun : ∀ n σ i k, i ≤ e → Lp (n + 1) σ (nI i) k = if e ≤ i then k σ (nI i) else Lp n (su σ c (b + i) (x i)) (nI (i + 1)) k) : ∀ (m i fuel : Nat) (σ : St) (k : St → Int32 → Option β), i + m = e → m < fuel → Lp fuel σ (nI i) k = k (sc σ c (fun j => if b + i ≤ j ∧ j < b + e then x (j - b) else σ.1 c j)) (nI e) := by
  intro m
  induction m with
  | zero =>
    intro i fuel σ k hi hf
    match fuel, hf with
    | f + 1, _ =>
      rw [hun f σ i k (by omega), if_pos (by omega), show i = e by omega]
      congr 1
      refine st_ext (fun a j => ?_) (fun _ _ => rfl)
      rw [sc_11]
      by_cases ha : a = c
      · rw [if_pos ha, if_neg (by omega), ha]
      · rw [if_neg ha]
  | succ m ih =>
    intro i fuel σ k hi hf
    match fuel, hf with
    | f + 1, hf =>
      rw [hun f σ i k (by omega), if_neg (by omega), ih (i + 1) f _ k (by omega) (by omega)]
      congr 1
      refine st_ext (fun a j => ?_) (fun _ _ => rfl)
      rw [sc_11, sc_11, su_11, su_11]
      by_cases ha : a = c
      · rw [if_pos ha, if_pos ha]
        by_cases hj : j = b + i
        · subst hj
          rw [if_neg (by omega), if_pos ⟨rfl, rfl⟩, if_pos (by omega), Nat.add_sub_cancel_left]
        · by_cases h2 : b + (i + 1) ≤ j ∧ j < b + e
          · rw [if_pos h2, if_pos (by omega)]
          · rw [if_neg h2, if_neg (by omega), if_neg (by omega)]
      · rw [if_neg ha, if_neg ha, if_neg (fun h => ha h.1)]
def fo {α : Type} (f : α → Nat → α) : Nat → Nat → α → α
  | _, 0, a => a
  | i, m + 1, a => fo f (i + 1) m (f a i)
theorem aloop {α β : Type} (Lp : Nat → St → α → Int32 → (St → α → Int32 → Option β) → Option β) (e : Nat) (σ : St) (f : α → Nat → α) (hun : ∀ n a i k, i ≤ e → Lp (n + 1) σ a (nI i) k = if e ≤ i then k σ a (nI i) else Lp n σ (f a i) (nI (i + 1)) k) : ∀ (m i fuel : Nat) (a : α) (k : St → α → Int32 → Option β), i + m = e → m < fuel → Lp fuel σ a (nI i) k = k σ (fo f i m a) (nI e) := by
  intro m
  induction m with
  | zero =>
    intro i fuel a k hi hf
    match fuel, hf with
    | n + 1, _ =>
      rw [hun n a i k (by omega), if_pos (by omega), show i = e by omega]
      rfl
  | succ m ih =>
    intro i fuel a k hi hf
    match fuel, hf with
    | n + 1, hf =>
      rw [hun n a i k (by omega), if_neg (by omega), ih (i + 1) n _ k (by omega) (by omega)]
      rfl
theorem o10 : ((1 : Int32) = 0) = False := eq_false (by decide)
theorem fill_ev (τ : St) (k : Nat) (v : Int32) (h0 : LC k ≠ 0) (hk : LC k < 10000) : fJ7_fill_53178 τ k v = some (sc τ k (fun j => if j < LC k then v else τ.1 k j), ()) := by
  unfold fJ7_fill_53178
  rw [gd_t (decide_eq_true h0), pv_s, L_0, wloop (fun n σ i k2 => fJ7_fill_53178_L5 k v (nI (LC k)) n σ i (fun σ i => k2 σ i)) k 0 (LC k) (fun _ => v) (fun n σ i k2 hi => ?_) (LC k) 0 10000 τ _ (by omega) hk]
  · simp
  · rw [fJ7_fill_53178_L5]
    by_cases h : LC k ≤ i
    · simp (disch := first | omega | (simp only [LCv_3, LCv_12, LCv_18, LCv_19, LCv_20, LCv_21, LCv_22, LCv_23, LCv_27, LCv_28, LCv_29, LCv_30, LCv_31, LCv_32, LCv_33, LCv_34, LCv_35, LCv_40, LCv_42, LCv_43, LCv_44, LCv_45, LCv_47, LCv_49, LCv_50, LCv_51, LMv_1, LMv_2, LMv_3, LMv_4, LMv_5, LMv_6, LMv_7, LMv_8, LMv_9, LMv_10, LMv_11, LMv_12, LMv_13, LMv_15, LMv_16, LMv_17, LMv_18, LMv_19, LMv_20, LMv_21, LMv_22, LMv_23, LMv_24]; omega) | assumption) only [cl_s, pt_s, pv_s, jn_s, L_0, L_1, L_2, L_3, L_4, L_5, L_6, L_7, L_8, L_9, L_10, L_11, L_12, L_16, L_20, L_21, L_25, L_26, L_31, L_40, L_41, L_48, L_55, L_56, L_57, L_58, L_59, L_60, L_61, L_63, L_90, L_97, L_99, L_100, L_122, L_343, L_600, L_999, L_1000, L_2200, L_2256, n_lt, n_le, n_eq, nI_add, pk_mul, rdC, rdM, wrC, wrM, gd_inb, gd_B0, gd_B1, if_pos, if_neg, ite_self]
    · simp (disch := first | omega | (simp only [LCv_3, LCv_12, LCv_18, LCv_19, LCv_20, LCv_21, LCv_22, LCv_23, LCv_27, LCv_28, LCv_29, LCv_30, LCv_31, LCv_32, LCv_33, LCv_34, LCv_35, LCv_40, LCv_42, LCv_43, LCv_44, LCv_45, LCv_47, LCv_49, LCv_50, LCv_51, LMv_1, LMv_2, LMv_3, LMv_4, LMv_5, LMv_6, LMv_7, LMv_8, LMv_9, LMv_10, LMv_11, LMv_12, LMv_13, LMv_15, LMv_16, LMv_17, LMv_18, LMv_19, LMv_20, LMv_21, LMv_22, LMv_23, LMv_24]; omega) | assumption) only [cl_s, pt_s, pv_s, jn_s, L_0, L_1, L_2, L_3, L_4, L_5, L_6, L_7, L_8, L_9, L_10, L_11, L_12, L_16, L_20, L_21, L_25, L_26, L_31, L_40, L_41, L_48, L_55, L_56, L_57, L_58, L_59, L_60, L_61, L_63, L_90, L_97, L_99, L_100, L_122, L_343, L_600, L_999, L_1000, L_2200, L_2256, n_lt, n_le, n_eq, nI_add, pk_mul, rdC, rdM, wrC, wrM, gd_inb, gd_B0, gd_B1, if_pos, if_neg, ite_self, Nat.zero_add]
theorem RR.same {τ σ τ' σ' : St} {r : Nat} (h : RR τ σ) (hr : r < 6) (z : Int32) (hz : z = -1 ∨ ∃ n, n ≤ 40 ∧ z = nI n) (f : Nat → Int32) (c1 : ∀ a, a ≠ r → τ'.1 3 a = τ.1 3 a) (c2 : τ'.1 3 r = z) (c3 : ∀ a, a < 6 → a ≠ r → τ'.1 (4 + a) = τ.1 (4 + a)) (c4 : ∀ i, i < 40 → τ'.1 (4 + r) i = f i) (m1 : ∀ a, a ≠ r → σ'.1 1 a = σ.1 1 a) (m2 : σ'.1 1 r = z) (m3 : ∀ a i, a < 6 → i < 40 → a ≠ r → σ'.1 2 (40 * a + i) = σ.1 2 (40 * a + i)) (m4 : ∀ i, i < 40 → σ'.1 2 (40 * r + i) = f i) : RR τ' σ' := fun a ha => by
  by_cases e : a = r
  · subst e
    rw [c2, m2]
    exact ⟨rfl, hz, fun i hi => (c4 i hi).trans (m4 i hi).symm⟩
  · rw [c1 a e, m1 a e, c3 a ha e]
    exact ⟨(h a ha).1, (h a ha).2.1, fun i hi => ((h a ha).2.2 i hi).trans (m3 a i ha hi e).symm⟩
/-- rows: one of them is as told now -/
theorem Rel.rows {τ σ τ' σ' : St} {r : Nat} (h : Rel τ σ) (hr : r < 6) (z : Int32) (hz : z = -1 ∨ ∃ n, n ≤ 40 ∧ z = nI n) (f : Nat → Int32) (e1 : ∀ k, k ≠ 3 → k ≠ 4 + r → τ'.1 k = τ.1 k) (e2 : τ'.2 = τ.2) (e3 : ∀ k, k ≠ 1 → k ≠ 2 → σ'.1 k = σ.1 k) (e4 : σ'.2 = σ.2) (c1 : ∀ a, a ≠ r → τ'.1 3 a = τ.1 3 a) (c2 : τ'.1 3 r = z) (c4 : ∀ i, i < 40 → τ'.1 (4 + r) i = f i) (m1 : ∀ a, a ≠ r → σ'.1 1 a = σ.1 1 a) (m2 : σ'.1 1 r = z) (m3 : ∀ a i, a < 6 → i < 40 → a ≠ r → σ'.1 2 (40 * a + i) = σ.1 2 (40 * a + i)) (m4 : ∀ i, i < 40 → σ'.1 2 (40 * r + i) = f i) : Rel τ' σ' := by
  obtain ⟨⟨q1, q1b, q1c, q1d, q1e⟩, q2, q3, q4⟩ := h
  refine ⟨⟨?_, ?_, fun f hf => ?_, ?_, ?_⟩, q2.same hr z hz f c1 c2 (fun a ha hne => e1 _ (by omega) (by omega)) c4 m1 m2 m3 m4, q3.fr (fun k a b => e1 k (by omega) (by omega)) (fun k a b => e3 k (by omega) (by omega)), q4.fr (fun k a b => e1 k (by omega) (by omega)) (fun k a b _ => e3 k (by omega) (by omega)) ?_ ?_ ?_⟩
  · rw [e1 0 (by omega) (by omega), e3 0 (by omega) (by omega)]; exact q1
  · rw [e1 0 (by omega) (by omega), e3 0 (by omega) (by omega)]; exact q1b
  · rw [e1 51 (by omega) (by omega), e3 15 (by omega) (by omega)]; exact q1c f hf
  · rw [e2, e4]; exact q1d
  · rw [e2, e4]; exact q1e
  · rw [e3 0 (by omega) (by omega)]
  · rw [e3 0 (by omega) (by omega)]
  · rw [e3 0 (by omega) (by omega)]
theorem s_row (τ σ : St) (h : Rel τ σ) (a1 a2 : Int32) : ∃ (τ' σ' : St) (r : Int32), fX10_row τ a1 a2 = some (τ', r) ∧ fX11_row σ a1 a2 = some (σ', r) ∧ Rel τ' σ' := by
  unfold fX10_row fX11_row
  rcases ix_cases a1 6 (by omega) with ⟨r, hr, rfl⟩ | hbad
  · rw [isOne1_yes τ hr, isRow_yes σ hr]
    simp only [cl_s, o10, if_false]
    by_cases h40 : a2 ≤ 40
    · rw [if_pos h40, if_pos h40]
      by_cases h0 : 0 ≤ a2
      · rw [if_pos h0, if_pos h0]
        obtain ⟨n, -, hn, rfl⟩ := between (x := a2) (a := 0) (n := 40) ⟨by rw [i_le] at h0; exact h0, by rw [i_le] at h40; exact h40⟩ (by omega)
        have hL := LC_row hr
        refine ⟨sc (su τ 3 r (nI n)) (4 + r) (fun j => if j < LC (4 + r) then 0 else (su τ 3 r (nI n)).1 (4 + r) j), sc (su σ 1 r (nI n)) 2 (fun j => if 40 * r + 0 ≤ j ∧ j < 40 * r + 40 then nI 0 else (su σ 1 r (nI n)).1 2 j), nI n, ?_, ?_, ?_⟩
        · unfold fX7_make_1
          rw [wrC (show r < LC 3 from hr), gd_inb hr (by omega), nI_clamp (by omega), fill_ev _ _ _ (by omega) (by omega)]
          rfl
        · rw [wrM (show r < LM 1 from hr), L_0, wloop (fun n2 σ i k2 => fX11_row_L34 (nI r) (nI n) n2 σ i (fun σ i => k2 σ i)) 2 (40 * r) 40 (fun _ => nI 0) (fun n2 σ i k2 hi => ?_) 40 0 10000 _ _ (by omega) (by omega)]
          rw [fX11_row_L34]
          by_cases h : 40 ≤ i
          · simp (disch := first | omega | (simp only [LCv_3, LCv_12, LCv_18, LCv_19, LCv_20, LCv_21, LCv_22, LCv_23, LCv_27, LCv_28, LCv_29, LCv_30, LCv_31, LCv_32, LCv_33, LCv_34, LCv_35, LCv_40, LCv_42, LCv_43, LCv_44, LCv_45, LCv_47, LCv_49, LCv_50, LCv_51, LMv_1, LMv_2, LMv_3, LMv_4, LMv_5, LMv_6, LMv_7, LMv_8, LMv_9, LMv_10, LMv_11, LMv_12, LMv_13, LMv_15, LMv_16, LMv_17, LMv_18, LMv_19, LMv_20, LMv_21, LMv_22, LMv_23, LMv_24]; omega) | assumption) only [cl_s, pt_s, pv_s, jn_s, L_0, L_1, L_2, L_3, L_4, L_5, L_6, L_7, L_8, L_9, L_10, L_11, L_12, L_16, L_20, L_21, L_25, L_26, L_31, L_40, L_41, L_48, L_55, L_56, L_57, L_58, L_59, L_60, L_61, L_63, L_90, L_97, L_99, L_100, L_122, L_343, L_600, L_999, L_1000, L_2200, L_2256, n_lt, n_le, n_eq, nI_add, pk_mul, rdC, rdM, wrC, wrM, gd_inb, gd_B0, gd_B1, if_pos, if_neg, ite_self]
          · simp (disch := first | omega | (simp only [LCv_3, LCv_12, LCv_18, LCv_19, LCv_20, LCv_21, LCv_22, LCv_23, LCv_27, LCv_28, LCv_29, LCv_30, LCv_31, LCv_32, LCv_33, LCv_34, LCv_35, LCv_40, LCv_42, LCv_43, LCv_44, LCv_45, LCv_47, LCv_49, LCv_50, LCv_51, LMv_1, LMv_2, LMv_3, LMv_4, LMv_5, LMv_6, LMv_7, LMv_8, LMv_9, LMv_10, LMv_11, LMv_12, LMv_13, LMv_15, LMv_16, LMv_17, LMv_18, LMv_19, LMv_20, LMv_21, LMv_22, LMv_23, LMv_24]; omega) | assumption) only [cl_s, pt_s, pv_s, jn_s, L_0, L_1, L_2, L_3, L_4, L_5, L_6, L_7, L_8, L_9, L_10, L_11, L_12, L_16, L_20, L_21, L_25, L_26, L_31, L_40, L_41, L_48, L_55, L_56, L_57, L_58, L_59, L_60, L_61, L_63, L_90, L_97, L_99, L_100, L_122, L_343, L_600, L_999, L_1000, L_2200, L_2256, n_lt, n_le, n_eq, nI_add, pk_mul, rdC, rdM, wrC, wrM, gd_inb, gd_B0, gd_B1, if_pos, if_neg, ite_self]
        · refine h.rows hr (nI n) (Or.inr ⟨n, hn, rfl⟩) (fun _ => nI 0) (fun k a b => ?_) rfl (fun k a b => ?_) rfl (fun a ha => ?_) ?_ (fun i hi => ?_) (fun a ha => ?_) ?_ (fun a i ha hi hne => ?_) (fun i hi => ?_)
          · rw [sc_o b, su_o a]
          · rw [sc_o b, su_o a]
          · rw [sc_o (by omega), su_11, if_neg (by omega)]
          · rw [sc_o (by omega), su_11, if_pos ⟨rfl, rfl⟩]
          · rw [sc_11, if_pos rfl, if_pos (by omega)]
            rfl
          · rw [sc_o (by omega), su_11, if_neg (by omega)]
          · rw [sc_o (by omega), su_11, if_pos ⟨rfl, rfl⟩]
          · rw [sc_11, if_pos rfl, if_neg (by omega), su_11, if_neg (by omega)]
          · rw [sc_11, if_pos rfl, if_pos (by omega)]
      · rw [if_neg h0, if_neg h0, show (5 : Int32) = nI 5 from rfl, refu_ev τ (by omega), fnd_ev σ (by omega)]
        exact ⟨_, _, _, rfl, rfl, h.found (by omega)⟩
    · rw [if_neg h40, if_neg h40]
      exact ⟨τ, σ, _, rfl, rfl, h⟩
  · rw [isOne1_no τ hbad, isRow_no σ hbad]
    exact ⟨τ, σ, _, rfl, rfl, h⟩
