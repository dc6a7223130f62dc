/-! places of rows and texts -/
theorem inS_y (σ : St) {n j : Nat} (hn : n ≤ 1000) (hj : j < n) : fX11_in σ (nI j).toInt64 0 ((nI n - 1).toInt64) = some (σ, 1) := by
  have := in_ev σ (nI j) 0 (nI n - 1)
  rw [if_pos] at this
  · exact this
  · refine ⟨nI_pos' (by omega), ?_⟩
    rw [i_le, show nI n - 1 = nI n - nI 1 from rfl, pk_sub_toInt (by omega) (by omega), nI_toInt (by omega)]
    omega
theorem inS_n (σ : St) {n : Nat} {i : Int32} (hn : n ≤ 1000) (hi : i < 0 ∨ nI n ≤ i) : fX11_in σ i.toInt64 0 ((nI n - 1).toInt64) = some (σ, 0) := by
  have := in_ev σ i 0 (nI n - 1)
  rw [if_neg] at this
  · exact this
  · rw [i_le, i_le, show nI n - 1 = nI n - nI 1 from rfl, pk_sub_toInt (by omega) (by omega)]
    have e0 : (0 : Int32).toInt = 0 := rfl
    rw [i_lt, i_le, nI_toInt (by omega)] at hi
    omega
theorem su_comm {σ : St} {a i b j : Nat} {v w : Int32} (h : a ≠ b) : su (su σ a i v) b j w = su (su σ b j w) a i v := by
  refine st_ext (fun k l => ?_) (fun _ _ => rfl)
  rw [su_11, su_11, su_11, su_11]
  by_cases h1 : k = a
  · subst h1
    rw [if_neg (fun q => h q.1)]
    by_cases h2 : l = i
    · rw [if_pos ⟨rfl, h2⟩, if_pos ⟨rfl, h2⟩]
    · rw [if_neg (fun q => h2 q.2), if_neg (fun q => h2 q.2), if_neg (fun q => h q.1)]
  · rw [if_neg (fun q : k = a ∧ l = i => h1 q.1), if_neg (fun q : k = a ∧ l = i => h1 q.1)]

theorem miss1_y (τ : St) {r : Nat} (hr : r < 6) (h : τ.1 3 r = -1) : fX7_isMissing_1 τ (nI r) = some (τ, 1) := by
  unfold fX7_isMissing_1
  rw [rdC (show r < LC 3 from hr), h]
  rfl
theorem miss1_n (τ : St) {r n : Nat} (hr : r < 6) (hn : n < 2 ^ 31) (h : τ.1 3 r = nI n) : fX7_isMissing_1 τ (nI r) = some (τ, 0) := by
  unfold fX7_isMissing_1
  rw [rdC (show r < LC 3 from hr), h, if_pos (nI_pos' hn)]
theorem plc1_y (τ : St) {r n j : Nat} (hr : r < 6) (hn : n < 2 ^ 31) (h : τ.1 3 r = nI n) (hj : j < n) : fX7_hasPlace_1 τ (nI r) (nI j) = some (τ, 1) := by
  unfold fX7_hasPlace_1
  rw [if_neg (nI_pos (by omega)), rdC (show r < LC 3 from hr), h, if_neg (nI_ge hj (by omega))]
theorem plc1_n (τ : St) {r n : Nat} {i : Int32} (hr : r < 6) (h : τ.1 3 r = nI n) (hi : i < 0 ∨ nI n ≤ i) : fX7_hasPlace_1 τ (nI r) i = some (τ, 0) := by
  unfold fX7_hasPlace_1
  by_cases h0 : i < 0
  · rw [if_pos h0]
  · rw [if_neg h0, rdC (show r < LC 3 from hr), h, if_pos (hi.resolve_left h0)]
theorem get1_ev (τ : St) {r j : Nat} (hr : r < 6) (hj : j < 40) : fX7_get_1 τ (nI r) (nI j) = some (τ, τ.1 (4 + r) j) := by
  unfold fX7_get_1
  have hL := LC_row hr
  rw [gd_inb hr (by omega), nI_clamp (by omega), rdC (by omega)]
theorem set1_ev (τ : St) {r j : Nat} (v : Int32) (hr : r < 6) (hj : j < 40) : fX7_set_1 τ (nI r) (nI j) v = some (su τ (4 + r) j v, ()) := by
  unfold fX7_set_1
  have hL := LC_row hr
  rw [gd_inb hr (by omega), nI_clamp (by omega), wrC (by omega)]


theorem miss10_y (τ : St) {r : Nat} (hr : r < 4) (h : τ.1 12 r = -1) : fX7_isMissing_10 τ (nI r) = some (τ, 1) := by
  unfold fX7_isMissing_10
  rw [rdC (show r < LC 12 from hr), h]
  rfl
theorem miss10_n (τ : St) {r n : Nat} (hr : r < 4) (hn : n < 2 ^ 31) (h : τ.1 12 r = nI n) : fX7_isMissing_10 τ (nI r) = some (τ, 0) := by
  unfold fX7_isMissing_10
  rw [rdC (show r < LC 12 from hr), h, if_pos (nI_pos' hn)]
theorem plc10_y (τ : St) {r n j : Nat} (hr : r < 4) (hn : n < 2 ^ 31) (h : τ.1 12 r = nI n) (hj : j < n) : fX7_hasPlace_10 τ (nI r) (nI j) = some (τ, 1) := by
  unfold fX7_hasPlace_10
  rw [if_neg (nI_pos (by omega)), rdC (show r < LC 12 from hr), h, if_neg (nI_ge hj (by omega))]
theorem plc10_n (τ : St) {r n : Nat} {i : Int32} (hr : r < 4) (h : τ.1 12 r = nI n) (hi : i < 0 ∨ nI n ≤ i) : fX7_hasPlace_10 τ (nI r) i = some (τ, 0) := by
  unfold fX7_hasPlace_10
  by_cases h0 : i < 0
  · rw [if_pos h0]
  · rw [if_neg h0, rdC (show r < LC 12 from hr), h, if_pos (hi.resolve_left h0)]
theorem get10_ev (τ : St) {r j : Nat} (hr : r < 4) (hj : j < 90) : fX7_get_10 τ (nI r) (nI j) = some (τ, τ.1 (13 + r) j) := by
  unfold fX7_get_10
  have hL := LC_text hr
  rw [gd_inb hr (by omega), nI_clamp (by omega), rdC (by omega)]
theorem set10_ev (τ : St) {r j : Nat} (v : Int32) (hr : r < 4) (hj : j < 90) : fX7_set_10 τ (nI r) (nI j) v = some (su τ (13 + r) j v, ()) := by
  unfold fX7_set_10
  have hL := LC_text hr
  rw [gd_inb hr (by omega), nI_clamp (by omega), wrC (by omega)]

theorem RX.same {τ σ τ' σ' : St} {r : Nat} (h : RX τ σ) (hr : r < 4) (z : Int32) (hz : z = -1 ∨ ∃ n, n ≤ 90 ∧ z = nI n) (f : Nat → Int32) (c1 : ∀ a, a ≠ r → τ'.1 12 a = τ.1 12 a) (c2 : τ'.1 12 r = z) (c3 : ∀ a, a < 4 → a ≠ r → τ'.1 (13 + a) = τ.1 (13 + a)) (c4 : ∀ i, i < 90 → τ'.1 (13 + r) i = f i) (m1 : ∀ a, a ≠ r → σ'.1 3 a = σ.1 3 a) (m2 : σ'.1 3 r = z) (m3 : ∀ a i, a < 4 → i < 90 → a ≠ r → σ'.1 4 (90 * a + i) = σ.1 4 (90 * a + i)) (m4 : ∀ i, i < 90 → σ'.1 4 (90 * r + i) = f i) : RX τ' σ' := fun a ha => by
  by_cases e : a = r
  · subst e
    rw [c2, m2]
    exact ⟨rfl, hz, fun i hi => (c4 i hi).trans (m4 i hi).symm⟩
  · rw [c1 a e, m1 a e, c3 a ha e]
    exact ⟨(h a ha).1, (h a ha).2.1, fun i hi => ((h a ha).2.2 i hi).trans (m3 a i ha hi e).symm⟩
theorem Rel.texts {τ σ τ' σ' : St} {r : Nat} (h : Rel τ σ) (hr : r < 4) (z : Int32) (hz : z = -1 ∨ ∃ n, n ≤ 90 ∧ z = nI n) (f : Nat → Int32) (e1 : ∀ k, k ≠ 12 → k ≠ 13 + r → τ'.1 k = τ.1 k) (e2 : τ'.2 = τ.2) (e3 : ∀ k, k ≠ 3 → k ≠ 4 → σ'.1 k = σ.1 k) (e4 : σ'.2 = σ.2) (c1 : ∀ a, a ≠ r → τ'.1 12 a = τ.1 12 a) (c2 : τ'.1 12 r = z) (c4 : ∀ i, i < 90 → τ'.1 (13 + r) i = f i) (m1 : ∀ a, a ≠ r → σ'.1 3 a = σ.1 3 a) (m2 : σ'.1 3 r = z) (m3 : ∀ a i, a < 4 → i < 90 → a ≠ r → σ'.1 4 (90 * a + i) = σ.1 4 (90 * a + i)) (m4 : ∀ i, i < 90 → σ'.1 4 (90 * r + i) = f i) : Rel τ' σ' := by
  obtain ⟨⟨q1, q1b, q1c, q1d, q1e⟩, q2, q3, q4⟩ := h
  refine ⟨⟨?_, ?_, fun f hf => ?_, ?_, ?_⟩, q2.fr (fun k a b => e1 k (by omega) (by omega)) (fun k a b => e3 k (by omega) (by omega)), q3.same hr z hz f c1 c2 (fun a ha hne => e1 _ (by omega) (by omega)) c4 m1 m2 m3 m4, q4.fr (fun k a b => e1 k (by omega) (by omega)) (fun k a b _ => e3 k (by omega) (by omega)) ?_ ?_ ?_⟩
  · rw [e1 0 (by omega) (by omega), e3 0 (by omega) (by omega)]; exact q1
  · rw [e1 0 (by omega) (by omega), e3 0 (by omega) (by omega)]; exact q1b
  · rw [e1 51 (by omega) (by omega), e3 15 (by omega) (by omega)]; exact q1c f hf
  · rw [e2, e4]; exact q1d
  · rw [e2, e4]; exact q1e
  · rw [e3 0 (by omega) (by omega)]
  · rw [e3 0 (by omega) (by omega)]
  · rw [e3 0 (by omega) (by omega)]
theorem L_32 : (32 : Int32) = nI 32 := rfl
theorem s_text (τ σ : St) (h : Rel τ σ) (a1 a2 : Int32) : ∃ (τ' σ' : St) (r : Int32), fX10_text τ a1 a2 = some (τ', r) ∧ fX11_text σ a1 a2 = some (σ', r) ∧ Rel τ' σ' := by
  unfold fX10_text fX11_text
  rcases ix_cases a1 4 (by omega) with ⟨r, hr, rfl⟩ | hbad
  · rw [isOne10_yes τ hr, isText_yes σ hr]
    simp only [cl_s, o10, if_false]
    by_cases h90 : a2 ≤ 90
    · rw [if_pos h90, if_pos h90]
      by_cases h0 : 0 ≤ a2
      · rw [if_pos h0, if_pos h0]
        obtain ⟨n, -, hn, rfl⟩ := between (x := a2) (a := 0) (n := 90) ⟨by rw [i_le] at h0; exact h0, by rw [i_le] at h90; exact h90⟩ (by omega)
        have hL := LC_text hr
        refine ⟨sc (su τ 12 r (nI n)) (13 + r) (fun j => if j < LC (13 + r) then 32 else (su τ 12 r (nI n)).1 (13 + r) j), sc (su σ 3 r (nI n)) 4 (fun j => if 90 * r + 0 ≤ j ∧ j < 90 * r + 90 then nI 32 else (su σ 3 r (nI n)).1 4 j), nI n, ?_, ?_, ?_⟩
        · unfold fX7_make_10
          rw [wrC (show r < LC 12 from hr), gd_inb hr (by omega), nI_clamp (by omega), fill_ev _ _ _ (by omega) (by omega)]
          rfl
        · rw [wrM (show r < LM 3 from hr), L_0, wloop (fun n2 σ i k2 => fX11_text_L34 (nI r) (nI n) n2 σ i (fun σ i => k2 σ i)) 4 (90 * r) 90 (fun _ => nI 32) (fun n2 σ i k2 hi => ?_) 90 0 10000 _ _ (by omega) (by omega)]
          rw [fX11_text_L34]
          by_cases h : 90 ≤ i
          · simp (disch := first | omega | (simp only [LCv_3, LCv_12, LCv_18, LCv_19, LCv_20, LCv_21, LCv_22, LCv_23, LCv_27, LCv_28, LCv_29, LCv_30, LCv_31, LCv_32, LCv_33, LCv_34, LCv_35, LCv_40, LCv_42, LCv_43, LCv_44, LCv_45, LCv_47, LCv_49, LCv_50, LCv_51, LMv_1, LMv_2, LMv_3, LMv_4, LMv_5, LMv_6, LMv_7, LMv_8, LMv_9, LMv_10, LMv_11, LMv_12, LMv_13, LMv_15, LMv_16, LMv_17, LMv_18, LMv_19, LMv_20, LMv_21, LMv_22, LMv_23, LMv_24]; omega) | assumption) only [cl_s, pt_s, pv_s, jn_s, L_0, L_1, L_2, L_3, L_4, L_5, L_6, L_7, L_8, L_9, L_10, L_11, L_12, L_16, L_20, L_21, L_25, L_26, L_31, L_40, L_41, L_48, L_55, L_56, L_57, L_58, L_59, L_60, L_61, L_63, L_90, L_97, L_99, L_100, L_122, L_343, L_600, L_999, L_1000, L_2200, L_2256, n_lt, n_le, n_eq, nI_add, pk_mul, rdC, rdM, wrC, wrM, gd_inb, gd_B0, gd_B1, if_pos, if_neg, ite_self, L_32]
          · simp (disch := first | omega | (simp only [LCv_3, LCv_12, LCv_18, LCv_19, LCv_20, LCv_21, LCv_22, LCv_23, LCv_27, LCv_28, LCv_29, LCv_30, LCv_31, LCv_32, LCv_33, LCv_34, LCv_35, LCv_40, LCv_42, LCv_43, LCv_44, LCv_45, LCv_47, LCv_49, LCv_50, LCv_51, LMv_1, LMv_2, LMv_3, LMv_4, LMv_5, LMv_6, LMv_7, LMv_8, LMv_9, LMv_10, LMv_11, LMv_12, LMv_13, LMv_15, LMv_16, LMv_17, LMv_18, LMv_19, LMv_20, LMv_21, LMv_22, LMv_23, LMv_24]; omega) | assumption) only [cl_s, pt_s, pv_s, jn_s, L_0, L_1, L_2, L_3, L_4, L_5, L_6, L_7, L_8, L_9, L_10, L_11, L_12, L_16, L_20, L_21, L_25, L_26, L_31, L_40, L_41, L_48, L_55, L_56, L_57, L_58, L_59, L_60, L_61, L_63, L_90, L_97, L_99, L_100, L_122, L_343, L_600, L_999, L_1000, L_2200, L_2256, n_lt, n_le, n_eq, nI_add, pk_mul, rdC, rdM, wrC, wrM, gd_inb, gd_B0, gd_B1, if_pos, if_neg, ite_self, L_32]
        · refine h.texts hr (nI n) (Or.inr ⟨n, hn, rfl⟩) (fun _ => nI 32) (fun k a b => ?_) rfl (fun k a b => ?_) rfl (fun a ha => ?_) ?_ (fun i hi => ?_) (fun a ha => ?_) ?_ (fun a i ha hi hne => ?_) (fun i hi => ?_)
          · rw [sc_o b, su_o a]
          · rw [sc_o b, su_o a]
          · rw [sc_o (by omega), su_11, if_neg (by omega)]
          · rw [sc_o (by omega), su_11, if_pos ⟨rfl, rfl⟩]
          · rw [sc_11, if_pos rfl, if_pos (by omega)]
            rfl
          · rw [sc_o (by omega), su_11, if_neg (by omega)]
          · rw [sc_o (by omega), su_11, if_pos ⟨rfl, rfl⟩]
          · rw [sc_11, if_pos rfl, if_neg (by omega), su_11, if_neg (by omega)]
          · rw [sc_11, if_pos rfl, if_pos (by omega)]
      · rw [if_neg h0, if_neg h0, show (5 : Int32) = nI 5 from rfl, refu_ev τ (by omega), fnd_ev σ (by omega)]
        exact ⟨_, _, _, rfl, rfl, h.found (by omega)⟩
    · rw [if_neg h90, if_neg h90]
      exact ⟨τ, σ, _, rfl, rfl, h⟩
  · rw [isOne10_no τ hbad, isText_no σ hbad]
    exact ⟨τ, σ, _, rfl, rfl, h⟩

theorem s_tear (τ σ : St) (h : Rel τ σ) (a1 : Int32) : ∃ (τ' σ' : St) (r : Int32), fX10_tear τ a1 = some (τ', r) ∧ fX11_tear σ a1 = some (σ', r) ∧ Rel τ' σ' := by
  unfold fX10_tear fX11_tear
  rcases ix_cases a1 6 (by omega) with ⟨r, hr, rfl⟩ | hbad
  · rw [isOne1_yes τ hr, isRow_yes σ hr]
    simp only [cl_s, o10, if_false]
    obtain ⟨g1, g2, g3⟩ := h.2.1 r hr
    rw [rdM (show r < LM 1 from hr)]
    rcases g2 with hm | ⟨n, hn, hz⟩
    · rw [miss1_y τ hr (g1.trans hm), hm, if_neg (show ¬ (0 : Int32) ≤ -1 by decide)]
      simp only [cl_s, o10, if_false]
      rw [show (1 : Int32) = nI 1 from rfl, refu_ev τ (by omega), fnd_ev σ (by omega)]
      exact ⟨_, _, _, rfl, rfl, h.found (by omega)⟩
    · rw [miss1_n τ hr (by omega) (g1.trans hz), hz, if_pos (nI_pos' (by omega))]
      simp only [cl_s, if_true]
      unfold fX7_remove_1
      rw [wrC (show r < LC 3 from hr), wrM (show r < LM 1 from hr)]
      refine ⟨_, _, _, rfl, rfl, h.rows hr (-1) (Or.inl rfl) (fun i => σ.1 2 (40 * r + i)) (fun k a b => su_o a) rfl (fun k a b => su_o a) rfl (fun a ha => ?_) ?_ (fun i hi => ?_) (fun a ha => ?_) ?_ (fun a i ha hi hne => ?_) (fun i hi => ?_)⟩
      · rw [su_11, if_neg (by omega)]
      · rw [su_11, if_pos ⟨rfl, rfl⟩]
      · rw [su_o (by omega)]; exact g3 i hi
      · rw [su_11, if_neg (by omega)]
      · rw [su_11, if_pos ⟨rfl, rfl⟩]
      · rw [su_o (by omega)]
      · rw [su_o (by omega)]
  · rw [isOne1_no τ hbad, isRow_no σ hbad]
    exact ⟨τ, σ, _, rfl, rfl, h⟩
theorem s_at (τ σ : St) (h : Rel τ σ) (a1 a2 : Int32) : ∃ (τ' σ' : St) (r : Int32), fX10_at τ a1 a2 = some (τ', r) ∧ fX11_at σ a1 a2 = some (σ', r) ∧ Rel τ' σ' := by
  unfold fX10_at fX11_at
  rcases ix_cases a1 6 (by omega) with ⟨r, hr, rfl⟩ | hbad
  · rw [isOne1_yes τ hr, isRow_yes σ hr]
    simp only [cl_s, o10, if_false]
    obtain ⟨g1, g2, g3⟩ := h.2.1 r hr
    rw [rdM (show r < LM 1 from hr)]
    rcases g2 with hm | ⟨n, hn, hz⟩
    · rw [miss1_y τ hr (g1.trans hm), hm, if_neg (show ¬ (0 : Int32) ≤ -1 by decide)]
      simp only [cl_s, o10, if_false]
      rw [show (1 : Int32) = nI 1 from rfl, refu_ev τ (by omega), fnd_ev σ (by omega)]
      exact ⟨_, _, _, rfl, rfl, h.found (by omega)⟩
    · rw [miss1_n τ hr (by omega) (g1.trans hz), hz, if_pos (nI_pos' (by omega)), rdM (show r < LM 1 from hr), hz]
      simp only [cl_s, if_true]
      rcases ix_cases a2 n (by omega) with ⟨j, hj, rfl⟩ | hb2
      · rw [plc1_y τ hr (by omega) (g1.trans hz) hj, inS_y σ (by omega) hj]
        simp only [cl_s, o10, if_false]
        rw [get1_ev τ hr (by omega), L_40, pk_mul, nI_add, rdM (show 40 * r + j < LM 2 by show _ < 240; omega), g3 j (by omega)]
        exact ⟨_, _, _, rfl, rfl, h.told _⟩
      · rw [plc1_n τ hr (g1.trans hz) hb2, inS_n σ (by omega) hb2]
        simp only [cl_s, if_true]
        rw [show (2 : Int32) = nI 2 from rfl, refu_ev τ (by omega), fnd_ev σ (by omega)]
        exact ⟨_, _, _, rfl, rfl, h.found (by omega)⟩
  · rw [isOne1_no τ hbad, isRow_no σ hbad]
    exact ⟨τ, σ, _, rfl, rfl, h⟩
theorem s_lay (τ σ : St) (h : Rel τ σ) (a1 a2 a3 : Int32) : ∃ (τ' σ' : St) (r : Int32), fX10_lay τ a1 a2 a3 = some (τ', r) ∧ fX11_lay σ a1 a2 a3 = some (σ', r) ∧ Rel τ' σ' := by
  unfold fX10_lay fX11_lay
  rcases ix_cases a1 6 (by omega) with ⟨r, hr, rfl⟩ | hbad
  · rw [isOne1_yes τ hr, isRow_yes σ hr]
    simp only [cl_s, o10, if_false]
    obtain ⟨g1, g2, g3⟩ := h.2.1 r hr
    rw [rdM (show r < LM 1 from hr)]
    rcases g2 with hm | ⟨n, hn, hz⟩
    · rw [miss1_y τ hr (g1.trans hm), hm, if_neg (show ¬ (0 : Int32) ≤ -1 by decide)]
      simp only [cl_s, o10, if_false]
      rw [show (1 : Int32) = nI 1 from rfl, refu_ev τ (by omega), fnd_ev σ (by omega)]
      exact ⟨_, _, _, rfl, rfl, h.found (by omega)⟩
    · rw [miss1_n τ hr (by omega) (g1.trans hz), hz, if_pos (nI_pos' (by omega)), rdM (show r < LM 1 from hr), hz]
      simp only [cl_s, if_true]
      rcases ix_cases a2 n (by omega) with ⟨j, hj, rfl⟩ | hb2
      · rw [plc1_y τ hr (by omega) (g1.trans hz) hj, inS_y σ (by omega) hj]
        simp only [cl_s, o10, if_false]
        rw [get1_ev τ hr (by omega), L_40, pk_mul, nI_add, rdM (show 40 * r + j < LM 2 by show _ < 240; omega), wrM (show 40 * r + j < LM 2 by show _ < 240; omega), g3 j (by omega)]
        simp only [cl_s, pt_s]
        rw [set1_ev _ _ hr (by omega)]
        unfold fX11_tell
        simp only [cl_s, pt_s]
        refine ⟨_, _, _, rfl, rfl, ?_⟩
        rw [show su (su σ 2 (40 * r + j) a3) 0 17 (σ.1 2 (40 * r + j)) = su (su σ 0 17 (σ.1 2 (40 * r + j))) 2 (40 * r + j) a3 from su_comm (by omega)]
        refine (h.told (σ.1 2 (40 * r + j))).rows hr (nI n) (Or.inr ⟨n, hn, rfl⟩) (fun i => if i = j then a3 else σ.1 2 (40 * r + i)) (fun k a b => su_o b) rfl (fun k a b => su_o b) rfl (fun a ha => ?_) ?_ (fun i hi => ?_) (fun a ha => ?_) ?_ (fun a i ha hi hne => ?_) (fun i hi => ?_)
        · rw [su_o (by omega)]
        · rw [su_o (by omega), su_o (by omega)]; exact g1.trans hz
        · rw [su_11]
          by_cases e : i = j
          · rw [if_pos ⟨rfl, e⟩, if_pos e]
          · rw [if_neg (fun q => e q.2), if_neg e, su_o (by omega)]; exact g3 i hi
        · rw [su_o (by omega)]
        · rw [su_o (by omega), su_o (by omega)]; exact hz
        · rw [su_11, if_neg (by omega)]
        · rw [su_11]
          by_cases e : i = j
          · rw [if_pos ⟨rfl, by omega⟩, if_pos e]
          · rw [if_neg (fun q => e (by have := q.2; omega)), if_neg e, su_o (by omega)]
      · rw [plc1_n τ hr (g1.trans hz) hb2, inS_n σ (by omega) hb2]
        simp only [cl_s, if_true]
        rw [show (2 : Int32) = nI 2 from rfl, refu_ev τ (by omega), fnd_ev σ (by omega)]
        exact ⟨_, _, _, rfl, rfl, h.found (by omega)⟩
  · rw [isOne1_no τ hbad, isRow_no σ hbad]
    exact ⟨τ, σ, _, rfl, rfl, h⟩
theorem s_put (τ σ : St) (h : Rel τ σ) (a1 a2 a3 : Int32) : ∃ (τ' σ' : St) (r : Int32), fX10_put τ a1 a2 a3 = some (τ', r) ∧ fX11_put σ a1 a2 a3 = some (σ', r) ∧ Rel τ' σ' := by
  unfold fX10_put fX11_put
  rcases ix_cases a1 4 (by omega) with ⟨r, hr, rfl⟩ | hbad
  · rw [isOne10_yes τ hr, isText_yes σ hr]
    simp only [cl_s, o10, if_false]
    obtain ⟨g1, g2, g3⟩ := h.2.2.1 r hr
    rw [rdM (show r < LM 3 from hr)]
    rcases g2 with hm | ⟨n, hn, hz⟩
    · rw [miss10_y τ hr (g1.trans hm), hm, if_neg (show ¬ (0 : Int32) ≤ -1 by decide)]
      simp only [cl_s, o10, if_false]
      rw [show (1 : Int32) = nI 1 from rfl, refu_ev τ (by omega), fnd_ev σ (by omega)]
      exact ⟨_, _, _, rfl, rfl, h.found (by omega)⟩
    · rw [miss10_n τ hr (by omega) (g1.trans hz), hz, if_pos (nI_pos' (by omega)), rdM (show r < LM 3 from hr), hz]
      simp only [cl_s, if_true]
      rcases ix_cases a2 n (by omega) with ⟨j, hj, rfl⟩ | hb2
      · rw [plc10_y τ hr (by omega) (g1.trans hz) hj, inS_y σ (by omega) hj]
        simp only [cl_s, o10, if_false]
        rw [get10_ev τ hr (by omega), L_90, pk_mul, nI_add, rdM (show 90 * r + j < LM 4 by show _ < 360; omega), wrM (show 90 * r + j < LM 4 by show _ < 360; omega), g3 j (by omega)]
        simp only [cl_s, pt_s]
        rw [set10_ev _ _ hr (by omega)]
        refine ⟨_, _, _, rfl, rfl, ?_⟩
        refine h.texts hr (nI n) (Or.inr ⟨n, hn, rfl⟩) (fun i => if i = j then a3.toInt8.toInt32 else σ.1 4 (90 * r + i)) (fun k a b => su_o b) rfl (fun k a b => su_o b) rfl (fun a ha => ?_) ?_ (fun i hi => ?_) (fun a ha => ?_) ?_ (fun a i ha hi hne => ?_) (fun i hi => ?_)
        · rw [su_o (by omega)]
        · rw [su_o (by omega)]; exact g1.trans hz
        · rw [su_11]
          by_cases e : i = j
          · rw [if_pos ⟨rfl, e⟩, if_pos e]
          · rw [if_neg (fun q => e q.2), if_neg e]; exact g3 i hi
        · rw [su_o (by omega)]
        · rw [su_o (by omega)]; exact hz
        · rw [su_11, if_neg (by omega)]
        · rw [su_11]
          by_cases e : i = j
          · rw [if_pos ⟨rfl, by omega⟩, if_pos e]
          · rw [if_neg (fun q => e (by have := q.2; omega)), if_neg e]
      · rw [plc10_n τ hr (g1.trans hz) hb2, inS_n σ (by omega) hb2]
        simp only [cl_s, if_true]
        rw [show (2 : Int32) = nI 2 from rfl, refu_ev τ (by omega), fnd_ev σ (by omega)]
        exact ⟨_, _, _, rfl, rfl, h.found (by omega)⟩
  · rw [isOne10_no τ hbad, isText_no σ hbad]
    exact ⟨τ, σ, _, rfl, rfl, h⟩
