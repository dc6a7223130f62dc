/-! mean(), digest() -/
theorem ch {n : Nat} {p : Nat → Int32 → Prop} (H : ∀ j, j < n → ∃ v, p j v) : ∃ f : Nat → Int32, ∀ j, j < n → p j (f j) :=
  ⟨fun j => if h : j < n then (H j h).choose else 0, fun j hj => by
    show p j (if h : j < n then (H j h).choose else 0)
    rw [dif_pos hj]
    exact (H j hj).choose_spec⟩
/-- the size of a row: none, if it is missing -/
theorem sz_of {x : Int32} {N : Nat} (h : x = -1 ∨ ∃ n, n ≤ N ∧ x = nI n) (hN : N < 1000) : ∃ n, n ≤ N ∧ ∀ i, i < 2 ^ 31 → ((x ≤ nI i) = (n ≤ i)) := by
  rcases h with rfl | ⟨n, hn, rfl⟩
  · refine ⟨0, by omega, fun i hi => propext ⟨fun _ => by omega, fun _ => ?_⟩⟩
    rw [i_le, nI_toInt hi]
    have : (-1 : Int32).toInt = -1 := rfl
    omega
  · exact ⟨n, hn, fun i hi => n_le (by omega) hi⟩
def mx (f : Nat → Int32) (a : Int64) (i : Nat) : Int64 := 31 * a + (f i).toInt64
theorem mix1C {τ σ : St} (hR : RR τ σ) (a : Int64) : ∃ v, fX7_mixInto_1 τ a = some (τ, v) ∧ ∀ k : St → Int64 → Int32 → Option (St × Int64), fX11_digest_L213 10000 σ a 0 k = k σ v 6 := by
  obtain ⟨sz, hsz⟩ : ∃ sz : Nat → Nat, ∀ r, r < 6 → sz r ≤ 40 ∧ ∀ i, i < 2 ^ 31 → ((σ.1 1 r ≤ nI i) = (sz r ≤ i)) := ⟨fun r => if h : r < 6 then (sz_of (hR r h).2.1 (by omega)).choose else 0, fun r h => by
    simp only [dif_pos h]
    exact (sz_of (hR r h).2.1 (by omega)).choose_spec⟩
  let F : Int64 → Nat → Int64 := fun a r => fo (mx (fun i => σ.1 2 (40 * r + i))) 0 (sz r) (31 * a + (σ.1 1 r).toInt64)
  refine ⟨fo F 0 6 a, ?_, fun k => ?_⟩
  · unfold fX7_mixInto_1
    rw [show (0 : Int32) = nI 0 from rfl, aloop (fun n σ a i k2 => fX7_mixInto_1_L5 n σ a i (fun σ a i => k2 σ a i)) 6 τ F (fun n a r k2 hi => ?_) 6 0 10000 a _ (by omega) (by omega)]
    rw [fX7_mixInto_1_L5, LCv_3]
    by_cases q : 6 ≤ r
    · simp (disch := first | omega | (simp only [LCv_3, LCv_12, LCv_18, LCv_19, LCv_20, LCv_21, LCv_22, LCv_23, LCv_27, LCv_28, LCv_29, LCv_30, LCv_31, LCv_32, LCv_33, LCv_34, LCv_35, LCv_40, LCv_42, LCv_43, LCv_44, LCv_45, LCv_47, LCv_49, LCv_50, LCv_51, LMv_1, LMv_2, LMv_3, LMv_4, LMv_5, LMv_6, LMv_7, LMv_8, LMv_9, LMv_10, LMv_11, LMv_12, LMv_13, LMv_15, LMv_16, LMv_17, LMv_18, LMv_19, LMv_20, LMv_21, LMv_22, LMv_23, LMv_24]; omega) | assumption) only [cl_s, pt_s, pv_s, jn_s, L_0, L_1, L_2, L_3, L_4, L_5, L_6, L_7, L_8, L_9, L_10, L_11, L_12, L_16, L_20, L_21, L_25, L_26, L_31, L_40, L_41, L_48, L_55, L_56, L_57, L_58, L_59, L_60, L_61, L_63, L_90, L_97, L_99, L_100, L_122, L_343, L_600, L_999, L_1000, L_2200, L_2256, n_lt, n_le, n_eq, nI_add, pk_mul, rdC, rdM, wrC, wrM, gd_inb, gd_B0, gd_B1, if_pos, if_neg, if_true, if_false, ite_self, Nat.add_zero, Nat.zero_add]
    · obtain ⟨g1, -, g3⟩ := hR r (by omega)
      obtain ⟨z1, z2⟩ := hsz r (by omega)
      have hL := LC_row (j := r) (by omega)
      rw [if_neg (nI_ge (by omega) (by omega)), if_neg q, rdC (show r < LC 3 by show r < 6; omega), g1, L_0, aloop (fun n σ a i k2 => fX7_mixInto_1_L33 (nI r) n σ a i (fun σ a i => k2 σ a i)) (sz r) τ (mx (fun i => σ.1 2 (40 * r + i))) (fun n a i k2 hi => ?_) (sz r) 0 10000 _ _ (by omega) (by omega), nI_1]
      rw [fX7_mixInto_1_L33, rdC (show r < LC 3 by show r < 6; omega), g1]
      simp only [z2 i (by omega)]
      by_cases q2 : sz r ≤ i
      · rw [if_pos q2, if_pos q2]
      · rw [if_neg q2, if_neg q2, gd_inb (by omega) (by omega), nI_clamp (by omega), rdC (by omega), g3 i (by omega), nI_1]
        rfl
  · rw [show (0 : Int32) = nI 0 from rfl, aloop (fun n σ a i k2 => fX11_digest_L213 n σ a i (fun σ a i => k2 σ a i)) 6 σ F (fun n a r k2 hi => ?_) 6 0 10000 a k (by omega) (by omega)]
    · rfl
    · rw [fX11_digest_L213]
      by_cases q : 6 ≤ r
      · simp (disch := first | omega | (simp only [LCv_3, LCv_12, LCv_18, LCv_19, LCv_20, LCv_21, LCv_22, LCv_23, LCv_27, LCv_28, LCv_29, LCv_30, LCv_31, LCv_32, LCv_33, LCv_34, LCv_35, LCv_40, LCv_42, LCv_43, LCv_44, LCv_45, LCv_47, LCv_49, LCv_50, LCv_51, LMv_1, LMv_2, LMv_3, LMv_4, LMv_5, LMv_6, LMv_7, LMv_8, LMv_9, LMv_10, LMv_11, LMv_12, LMv_13, LMv_15, LMv_16, LMv_17, LMv_18, LMv_19, LMv_20, LMv_21, LMv_22, LMv_23, LMv_24]; omega) | assumption) only [cl_s, pt_s, pv_s, jn_s, L_0, L_1, L_2, L_3, L_4, L_5, L_6, L_7, L_8, L_9, L_10, L_11, L_12, L_16, L_20, L_21, L_25, L_26, L_31, L_40, L_41, L_48, L_55, L_56, L_57, L_58, L_59, L_60, L_61, L_63, L_90, L_97, L_99, L_100, L_122, L_343, L_600, L_999, L_1000, L_2200, L_2256, n_lt, n_le, n_eq, nI_add, pk_mul, rdC, rdM, wrC, wrM, gd_inb, gd_B0, gd_B1, if_pos, if_neg, if_true, if_false, ite_self, Nat.add_zero, Nat.zero_add]
      · obtain ⟨z1, z2⟩ := hsz r (by omega)
        rw [if_neg (show ¬ (6 : Int32) ≤ nI r from nI_ge (b := 6) (by omega) (by omega)), if_neg q, rdM (show r < LM 1 by show r < 6; omega), L_0, aloop (fun n σ a i k2 => fX11_digest_L236 (nI r) n σ a i (fun σ a i => k2 σ a i)) (sz r) σ (mx (fun i => σ.1 2 (40 * r + i))) (fun n a i k2 hi => ?_) (sz r) 0 10000 _ _ (by omega) (by omega), nI_1]
        rw [fX11_digest_L236, rdM (show r < LM 1 by show r < 6; omega)]
        simp only [z2 i (by omega)]
        by_cases q2 : sz r ≤ i
        · rw [if_pos q2, if_pos q2]
        · rw [if_neg q2, if_neg q2, L_40, pk_mul, nI_add, rdM (show 40 * r + i < LM 2 by show _ < 240; omega), nI_1]
          rfl
theorem mix10C {τ σ : St} (hR : RX τ σ) (a : Int64) : ∃ v, fX7_mixInto_10 τ a = some (τ, v) ∧ ∀ k : St → Int64 → Int32 → Option (St × Int64), fX11_digest_L281 10000 σ a 0 k = k σ v 4 := by
  obtain ⟨sz, hsz⟩ : ∃ sz : Nat → Nat, ∀ r, r < 4 → sz r ≤ 90 ∧ ∀ i, i < 2 ^ 31 → ((σ.1 3 r ≤ nI i) = (sz r ≤ i)) := ⟨fun r => if h : r < 4 then (sz_of (hR r h).2.1 (by omega)).choose else 0, fun r h => by
    simp only [dif_pos h]
    exact (sz_of (hR r h).2.1 (by omega)).choose_spec⟩
  let F : Int64 → Nat → Int64 := fun a r => fo (mx (fun i => σ.1 4 (90 * r + i))) 0 (sz r) (31 * a + (σ.1 3 r).toInt64)
  refine ⟨fo F 0 4 a, ?_, fun k => ?_⟩
  · unfold fX7_mixInto_10
    rw [show (0 : Int32) = nI 0 from rfl, aloop (fun n σ a i k2 => fX7_mixInto_10_L5 n σ a i (fun σ a i => k2 σ a i)) 4 τ F (fun n a r k2 hi => ?_) 4 0 10000 a _ (by omega) (by omega)]
    rw [fX7_mixInto_10_L5, LCv_12]
    by_cases q : 4 ≤ r
    · simp (disch := first | omega | (simp only [LCv_3, LCv_12, LCv_18, LCv_19, LCv_20, LCv_21, LCv_22, LCv_23, LCv_27, LCv_28, LCv_29, LCv_30, LCv_31, LCv_32, LCv_33, LCv_34, LCv_35, LCv_40, LCv_42, LCv_43, LCv_44, LCv_45, LCv_47, LCv_49, LCv_50, LCv_51, LMv_1, LMv_2, LMv_3, LMv_4, LMv_5, LMv_6, LMv_7, LMv_8, LMv_9, LMv_10, LMv_11, LMv_12, LMv_13, LMv_15, LMv_16, LMv_17, LMv_18, LMv_19, LMv_20, LMv_21, LMv_22, LMv_23, LMv_24]; omega) | assumption) only [cl_s, pt_s, pv_s, jn_s, L_0, L_1, L_2, L_3, L_4, L_5, L_6, L_7, L_8, L_9, L_10, L_11, L_12, L_16, L_20, L_21, L_25, L_26, L_31, L_40, L_41, L_48, L_55, L_56, L_57, L_58, L_59, L_60, L_61, L_63, L_90, L_97, L_99, L_100, L_122, L_343, L_600, L_999, L_1000, L_2200, L_2256, n_lt, n_le, n_eq, nI_add, pk_mul, rdC, rdM, wrC, wrM, gd_inb, gd_B0, gd_B1, if_pos, if_neg, if_true, if_false, ite_self, Nat.add_zero, Nat.zero_add]
    · obtain ⟨g1, -, g3⟩ := hR r (by omega)
      obtain ⟨z1, z2⟩ := hsz r (by omega)
      have hL := LC_text (j := r) (by omega)
      rw [if_neg (nI_ge (by omega) (by omega)), if_neg q, rdC (show r < LC 12 by show r < 4; omega), g1, L_0, aloop (fun n σ a i k2 => fX7_mixInto_10_L33 (nI r) n σ a i (fun σ a i => k2 σ a i)) (sz r) τ (mx (fun i => σ.1 4 (90 * r + i))) (fun n a i k2 hi => ?_) (sz r) 0 10000 _ _ (by omega) (by omega), nI_1]
      rw [fX7_mixInto_10_L33, rdC (show r < LC 12 by show r < 4; omega), g1]
      simp only [z2 i (by omega)]
      by_cases q2 : sz r ≤ i
      · rw [if_pos q2, if_pos q2]
      · rw [if_neg q2, if_neg q2, gd_inb (by omega) (by omega), nI_clamp (by omega), rdC (by omega), g3 i (by omega), nI_1]
        rfl
  · rw [show (0 : Int32) = nI 0 from rfl, aloop (fun n σ a i k2 => fX11_digest_L281 n σ a i (fun σ a i => k2 σ a i)) 4 σ F (fun n a r k2 hi => ?_) 4 0 10000 a k (by omega) (by omega)]
    · rfl
    · rw [fX11_digest_L281]
      by_cases q : 4 ≤ r
      · simp (disch := first | omega | (simp only [LCv_3, LCv_12, LCv_18, LCv_19, LCv_20, LCv_21, LCv_22, LCv_23, LCv_27, LCv_28, LCv_29, LCv_30, LCv_31, LCv_32, LCv_33, LCv_34, LCv_35, LCv_40, LCv_42, LCv_43, LCv_44, LCv_45, LCv_47, LCv_49, LCv_50, LCv_51, LMv_1, LMv_2, LMv_3, LMv_4, LMv_5, LMv_6, LMv_7, LMv_8, LMv_9, LMv_10, LMv_11, LMv_12, LMv_13, LMv_15, LMv_16, LMv_17, LMv_18, LMv_19, LMv_20, LMv_21, LMv_22, LMv_23, LMv_24]; omega) | assumption) only [cl_s, pt_s, pv_s, jn_s, L_0, L_1, L_2, L_3, L_4, L_5, L_6, L_7, L_8, L_9, L_10, L_11, L_12, L_16, L_20, L_21, L_25, L_26, L_31, L_40, L_41, L_48, L_55, L_56, L_57, L_58, L_59, L_60, L_61, L_63, L_90, L_97, L_99, L_100, L_122, L_343, L_600, L_999, L_1000, L_2200, L_2256, n_lt, n_le, n_eq, nI_add, pk_mul, rdC, rdM, wrC, wrM, gd_inb, gd_B0, gd_B1, if_pos, if_neg, if_true, if_false, ite_self, Nat.add_zero, Nat.zero_add]
      · obtain ⟨z1, z2⟩ := hsz r (by omega)
        rw [if_neg (show ¬ (4 : Int32) ≤ nI r from nI_ge (b := 4) (by omega) (by omega)), if_neg q, rdM (show r < LM 3 by show r < 4; omega), L_0, aloop (fun n σ a i k2 => fX11_digest_L303 (nI r) n σ a i (fun σ a i => k2 σ a i)) (sz r) σ (mx (fun i => σ.1 4 (90 * r + i))) (fun n a i k2 hi => ?_) (sz r) 0 10000 _ _ (by omega) (by omega), nI_1]
        rw [fX11_digest_L303, rdM (show r < LM 3 by show r < 4; omega)]
        simp only [z2 i (by omega)]
        by_cases q2 : sz r ≤ i
        · rw [if_pos q2, if_pos q2]
        · rw [if_neg q2, if_neg q2, L_90, pk_mul, nI_add, rdM (show 90 * r + i < LM 4 by show _ < 360; omega), nI_1]
          rfl
theorem dg1 {τ σ : St} (h : Rel τ σ) (a : Int64) : ∃ v, (∀ k : St → Int64 → Int32 → Option (St × Int64), fX10_digest_L6 10000 τ a 0 k = k τ v (nI 11)) ∧ ∀ k : St → Int64 → Int32 → Option (St × Int64), fX11_digest_L6 10000 σ a 0 k = k σ v (nI 11) := by
  obtain ⟨f, hf⟩ := ch (n := 11) (p := fun j v => fX10_tally τ (nI j) = some (τ, v) ∧ fX11_count σ (nI j) = some (σ, v)) (fun j hj => counts h (by omega))
  refine ⟨fo (mx f) 0 11 a, fun k => ?_, fun k => ?_⟩
  · rw [show (0 : Int32) = nI 0 from rfl, aloop (fun n σ a i k2 => fX10_digest_L6 n σ a i (fun σ a i => k2 σ a i)) 11 τ (mx f) (fun n a r k2 hi => ?_) 11 0 10000 a k (by omega) (by omega)]
    rw [fX10_digest_L6]
    by_cases q : 11 ≤ r
    · simp (disch := first | omega | (simp only [LCv_3, LCv_12, LCv_18, LCv_19, LCv_20, LCv_21, LCv_22, LCv_23, LCv_27, LCv_28, LCv_29, LCv_30, LCv_31, LCv_32, LCv_33, LCv_34, LCv_35, LCv_40, LCv_42, LCv_43, LCv_44, LCv_45, LCv_47, LCv_49, LCv_50, LCv_51, LMv_1, LMv_2, LMv_3, LMv_4, LMv_5, LMv_6, LMv_7, LMv_8, LMv_9, LMv_10, LMv_11, LMv_12, LMv_13, LMv_15, LMv_16, LMv_17, LMv_18, LMv_19, LMv_20, LMv_21, LMv_22, LMv_23, LMv_24]; omega) | assumption) only [cl_s, pt_s, pv_s, jn_s, L_0, L_1, L_2, L_3, L_4, L_5, L_6, L_7, L_8, L_9, L_10, L_11, L_12, L_16, L_20, L_21, L_25, L_26, L_31, L_40, L_41, L_48, L_55, L_56, L_57, L_58, L_59, L_60, L_61, L_63, L_90, L_97, L_99, L_100, L_122, L_343, L_600, L_999, L_1000, L_2200, L_2256, n_lt, n_le, n_eq, nI_add, pk_mul, rdC, rdM, wrC, wrM, gd_inb, gd_B0, gd_B1, if_pos, if_neg, if_true, if_false, ite_self, Nat.add_zero, Nat.zero_add]
    · rw [if_neg (show ¬ (11 : Int32) ≤ nI r from nI_ge (b := 11) (by omega) (by omega)), if_neg q, (hf r (by omega)).1, cl_s, nI_1]
      rfl
  · rw [show (0 : Int32) = nI 0 from rfl, aloop (fun n σ a i k2 => fX11_digest_L6 n σ a i (fun σ a i => k2 σ a i)) 11 σ (mx f) (fun n a r k2 hi => ?_) 11 0 10000 a k (by omega) (by omega)]
    rw [fX11_digest_L6]
    by_cases q : 11 ≤ r
    · simp (disch := first | omega | (simp only [LCv_3, LCv_12, LCv_18, LCv_19, LCv_20, LCv_21, LCv_22, LCv_23, LCv_27, LCv_28, LCv_29, LCv_30, LCv_31, LCv_32, LCv_33, LCv_34, LCv_35, LCv_40, LCv_42, LCv_43, LCv_44, LCv_45, LCv_47, LCv_49, LCv_50, LCv_51, LMv_1, LMv_2, LMv_3, LMv_4, LMv_5, LMv_6, LMv_7, LMv_8, LMv_9, LMv_10, LMv_11, LMv_12, LMv_13, LMv_15, LMv_16, LMv_17, LMv_18, LMv_19, LMv_20, LMv_21, LMv_22, LMv_23, LMv_24]; omega) | assumption) only [cl_s, pt_s, pv_s, jn_s, L_0, L_1, L_2, L_3, L_4, L_5, L_6, L_7, L_8, L_9, L_10, L_11, L_12, L_16, L_20, L_21, L_25, L_26, L_31, L_40, L_41, L_48, L_55, L_56, L_57, L_58, L_59, L_60, L_61, L_63, L_90, L_97, L_99, L_100, L_122, L_343, L_600, L_999, L_1000, L_2200, L_2256, n_lt, n_le, n_eq, nI_add, pk_mul, rdC, rdM, wrC, wrM, gd_inb, gd_B0, gd_B1, if_pos, if_neg, if_true, if_false, ite_self, Nat.add_zero, Nat.zero_add]
    · rw [if_neg (show ¬ (11 : Int32) ≤ nI r from nI_ge (b := 11) (by omega) (by omega)), if_neg q, (hf r (by omega)).2, cl_s, nI_1]
      rfl
theorem dg2i {τ σ : St} {P : Pl} {t : Tw} (hv : TV τ σ P t) {c : Nat} (hc : c < pC P) (a : Int64) : ∃ v, (∀ k : St → Int64 → Int32 → Option (St × Int64), fX10_digest_L47 (nI c) 10000 τ a 0 k = k τ v (nI 4)) ∧ ∀ k : St → Int64 → Int32 → Option (St × Int64), fX11_digest_L44 (nI c) 10000 σ a 0 k = k σ v (nI 4) := by
  obtain ⟨f, hf⟩ := ch (n := 4) (p := fun j v => fX10_ofColour τ (nI c) (nI j) = some (τ, v) ∧ fX11_colourTold σ (nI c) (nI j) = some (σ, v)) (fun j hj => tolds hv hc (by omega))
  refine ⟨fo (mx f) 0 4 a, fun k => ?_, fun k => ?_⟩
  · rw [show (0 : Int32) = nI 0 from rfl, aloop (fun n σ a i k2 => fX10_digest_L47 (nI c) n σ a i (fun σ a i => k2 σ a i)) 4 τ (mx f) (fun n a r k2 hi => ?_) 4 0 10000 a k (by omega) (by omega)]
    rw [fX10_digest_L47]
    by_cases q : 4 ≤ r
    · simp (disch := first | omega | (simp only [LCv_3, LCv_12, LCv_18, LCv_19, LCv_20, LCv_21, LCv_22, LCv_23, LCv_27, LCv_28, LCv_29, LCv_30, LCv_31, LCv_32, LCv_33, LCv_34, LCv_35, LCv_40, LCv_42, LCv_43, LCv_44, LCv_45, LCv_47, LCv_49, LCv_50, LCv_51, LMv_1, LMv_2, LMv_3, LMv_4, LMv_5, LMv_6, LMv_7, LMv_8, LMv_9, LMv_10, LMv_11, LMv_12, LMv_13, LMv_15, LMv_16, LMv_17, LMv_18, LMv_19, LMv_20, LMv_21, LMv_22, LMv_23, LMv_24]; omega) | assumption) only [cl_s, pt_s, pv_s, jn_s, L_0, L_1, L_2, L_3, L_4, L_5, L_6, L_7, L_8, L_9, L_10, L_11, L_12, L_16, L_20, L_21, L_25, L_26, L_31, L_40, L_41, L_48, L_55, L_56, L_57, L_58, L_59, L_60, L_61, L_63, L_90, L_97, L_99, L_100, L_122, L_343, L_600, L_999, L_1000, L_2200, L_2256, n_lt, n_le, n_eq, nI_add, pk_mul, rdC, rdM, wrC, wrM, gd_inb, gd_B0, gd_B1, if_pos, if_neg, if_true, if_false, ite_self, Nat.add_zero, Nat.zero_add]
    · rw [if_neg (show ¬ (3 : Int32) < nI r from nI_nlt (a := 3) (by omega) (by omega)), if_neg q, (hf r (by omega)).1, cl_s, nI_1]
      rfl
  · rw [show (0 : Int32) = nI 0 from rfl, aloop (fun n σ a i k2 => fX11_digest_L44 (nI c) n σ a i (fun σ a i => k2 σ a i)) 4 σ (mx f) (fun n a r k2 hi => ?_) 4 0 10000 a k (by omega) (by omega)]
    rw [fX11_digest_L44]
    by_cases q : 4 ≤ r
    · simp (disch := first | omega | (simp only [LCv_3, LCv_12, LCv_18, LCv_19, LCv_20, LCv_21, LCv_22, LCv_23, LCv_27, LCv_28, LCv_29, LCv_30, LCv_31, LCv_32, LCv_33, LCv_34, LCv_35, LCv_40, LCv_42, LCv_43, LCv_44, LCv_45, LCv_47, LCv_49, LCv_50, LCv_51, LMv_1, LMv_2, LMv_3, LMv_4, LMv_5, LMv_6, LMv_7, LMv_8, LMv_9, LMv_10, LMv_11, LMv_12, LMv_13, LMv_15, LMv_16, LMv_17, LMv_18, LMv_19, LMv_20, LMv_21, LMv_22, LMv_23, LMv_24]; omega) | assumption) only [cl_s, pt_s, pv_s, jn_s, L_0, L_1, L_2, L_3, L_4, L_5, L_6, L_7, L_8, L_9, L_10, L_11, L_12, L_16, L_20, L_21, L_25, L_26, L_31, L_40, L_41, L_48, L_55, L_56, L_57, L_58, L_59, L_60, L_61, L_63, L_90, L_97, L_99, L_100, L_122, L_343, L_600, L_999, L_1000, L_2200, L_2256, n_lt, n_le, n_eq, nI_add, pk_mul, rdC, rdM, wrC, wrM, gd_inb, gd_B0, gd_B1, if_pos, if_neg, if_true, if_false, ite_self, Nat.add_zero, Nat.zero_add]
    · rw [if_neg (show ¬ (4 : Int32) ≤ nI r from nI_ge (b := 4) (by omega) (by omega)), if_neg q, (hf r (by omega)).2, cl_s, nI_1]
      rfl
theorem dg3i {τ σ : St} {P : Pl} {t : Tw} (hv : TV τ σ P t) {c : Nat} (hc : c < pH P) (a : Int64) : ∃ v, (∀ k : St → Int64 → Int32 → Option (St × Int64), fX10_digest_L96 (nI c) 10000 τ a 0 k = k τ v (nI 4)) ∧ ∀ k : St → Int64 → Int32 → Option (St × Int64), fX11_digest_L90 (nI c) 10000 σ a 0 k = k σ v (nI 4) := by
  obtain ⟨f, hf⟩ := ch (n := 4) (p := fun j v => fX10_ofHouse τ (nI c) (nI j) = some (τ, v) ∧ fX11_houseTold σ (nI c) (nI j) = some (σ, v)) (fun j hj => houses hv hc (by omega))
  refine ⟨fo (mx f) 0 4 a, fun k => ?_, fun k => ?_⟩
  · rw [show (0 : Int32) = nI 0 from rfl, aloop (fun n σ a i k2 => fX10_digest_L96 (nI c) n σ a i (fun σ a i => k2 σ a i)) 4 τ (mx f) (fun n a r k2 hi => ?_) 4 0 10000 a k (by omega) (by omega)]
    rw [fX10_digest_L96]
    by_cases q : 4 ≤ r
    · simp (disch := first | omega | (simp only [LCv_3, LCv_12, LCv_18, LCv_19, LCv_20, LCv_21, LCv_22, LCv_23, LCv_27, LCv_28, LCv_29, LCv_30, LCv_31, LCv_32, LCv_33, LCv_34, LCv_35, LCv_40, LCv_42, LCv_43, LCv_44, LCv_45, LCv_47, LCv_49, LCv_50, LCv_51, LMv_1, LMv_2, LMv_3, LMv_4, LMv_5, LMv_6, LMv_7, LMv_8, LMv_9, LMv_10, LMv_11, LMv_12, LMv_13, LMv_15, LMv_16, LMv_17, LMv_18, LMv_19, LMv_20, LMv_21, LMv_22, LMv_23, LMv_24]; omega) | assumption) only [cl_s, pt_s, pv_s, jn_s, L_0, L_1, L_2, L_3, L_4, L_5, L_6, L_7, L_8, L_9, L_10, L_11, L_12, L_16, L_20, L_21, L_25, L_26, L_31, L_40, L_41, L_48, L_55, L_56, L_57, L_58, L_59, L_60, L_61, L_63, L_90, L_97, L_99, L_100, L_122, L_343, L_600, L_999, L_1000, L_2200, L_2256, n_lt, n_le, n_eq, nI_add, pk_mul, rdC, rdM, wrC, wrM, gd_inb, gd_B0, gd_B1, if_pos, if_neg, if_true, if_false, ite_self, Nat.add_zero, Nat.zero_add]
    · rw [if_neg (show ¬ (3 : Int32) < nI r from nI_nlt (a := 3) (by omega) (by omega)), if_neg q, (hf r (by omega)).1, cl_s, nI_1]
      rfl
  · rw [show (0 : Int32) = nI 0 from rfl, aloop (fun n σ a i k2 => fX11_digest_L90 (nI c) n σ a i (fun σ a i => k2 σ a i)) 4 σ (mx f) (fun n a r k2 hi => ?_) 4 0 10000 a k (by omega) (by omega)]
    rw [fX11_digest_L90]
    by_cases q : 4 ≤ r
    · simp (disch := first | omega | (simp only [LCv_3, LCv_12, LCv_18, LCv_19, LCv_20, LCv_21, LCv_22, LCv_23, LCv_27, LCv_28, LCv_29, LCv_30, LCv_31, LCv_32, LCv_33, LCv_34, LCv_35, LCv_40, LCv_42, LCv_43, LCv_44, LCv_45, LCv_47, LCv_49, LCv_50, LCv_51, LMv_1, LMv_2, LMv_3, LMv_4, LMv_5, LMv_6, LMv_7, LMv_8, LMv_9, LMv_10, LMv_11, LMv_12, LMv_13, LMv_15, LMv_16, LMv_17, LMv_18, LMv_19, LMv_20, LMv_21, LMv_22, LMv_23, LMv_24]; omega) | assumption) only [cl_s, pt_s, pv_s, jn_s, L_0, L_1, L_2, L_3, L_4, L_5, L_6, L_7, L_8, L_9, L_10, L_11, L_12, L_16, L_20, L_21, L_25, L_26, L_31, L_40, L_41, L_48, L_55, L_56, L_57, L_58, L_59, L_60, L_61, L_63, L_90, L_97, L_99, L_100, L_122, L_343, L_600, L_999, L_1000, L_2200, L_2256, n_lt, n_le, n_eq, nI_add, pk_mul, rdC, rdM, wrC, wrM, gd_inb, gd_B0, gd_B1, if_pos, if_neg, if_true, if_false, ite_self, Nat.add_zero, Nat.zero_add]
    · rw [if_neg (show ¬ (4 : Int32) ≤ nI r from nI_ge (b := 4) (by omega) (by omega)), if_neg q, (hf r (by omega)).2, cl_s, nI_1]
      rfl
theorem dg4i {τ σ : St} {P : Pl} {t : Tw} (hv : TV τ σ P t) {x : Nat} (hx : x < pH P) (a : Int64) : ∃ v, (∀ k : St → Int64 → Int32 → Option (St × Int64), fX10_digest_L126 (nI x) 10000 τ a 0 k = k τ v (nI (pC P))) ∧ ∀ k : St → Int64 → Int32 → Option (St × Int64), fX11_digest_L120 (nI x) 10000 σ a 0 k = k σ v (nI (pC P)) := by
  obtain ⟨hP, hC, hM, ht, tC, tM⟩ := hv
  have h6 := hP.1
  have h8 := hP.2.1
  refine ⟨fo (mx (fun c => nI (t (7 + 8 * x + c)))) 0 (pC P) a, fun k => ?_, fun k => ?_⟩
  · rw [show (0 : Int32) = nI 0 from rfl, aloop (fun n σ a i k2 => fX10_digest_L126 (nI x) n σ a i (fun σ a i => k2 σ a i)) (pC P) τ (mx (fun c => nI (t (7 + 8 * x + c)))) (fun n a r k2 hi => ?_) (pC P) 0 10000 a k (by omega) (by omega)]
    rw [fX10_digest_L126, hC.2.1]
    by_cases q : pC P ≤ r
    · simp (disch := first | omega | (simp only [LCv_3, LCv_12, LCv_18, LCv_19, LCv_20, LCv_21, LCv_22, LCv_23, LCv_27, LCv_28, LCv_29, LCv_30, LCv_31, LCv_32, LCv_33, LCv_34, LCv_35, LCv_40, LCv_42, LCv_43, LCv_44, LCv_45, LCv_47, LCv_49, LCv_50, LCv_51, LMv_1, LMv_2, LMv_3, LMv_4, LMv_5, LMv_6, LMv_7, LMv_8, LMv_9, LMv_10, LMv_11, LMv_12, LMv_13, LMv_15, LMv_16, LMv_17, LMv_18, LMv_19, LMv_20, LMv_21, LMv_22, LMv_23, LMv_24]; omega) | assumption) only [cl_s, pt_s, pv_s, jn_s, L_0, L_1, L_2, L_3, L_4, L_5, L_6, L_7, L_8, L_9, L_10, L_11, L_12, L_16, L_20, L_21, L_25, L_26, L_31, L_40, L_41, L_48, L_55, L_56, L_57, L_58, L_59, L_60, L_61, L_63, L_90, L_97, L_99, L_100, L_122, L_343, L_600, L_999, L_1000, L_2200, L_2256, n_lt, n_le, n_eq, nI_add, pk_mul, rdC, rdM, wrC, wrM, gd_inb, gd_B0, gd_B1, if_pos, if_neg, if_true, if_false, ite_self, Nat.add_zero, Nat.zero_add]
    · rw [if_neg (nI_ge (by omega) (by omega)), if_neg q, endC tC (by omega) (by omega), cl_s, nI_1]
      rfl
  · rw [show (0 : Int32) = nI 0 from rfl, aloop (fun n σ a i k2 => fX11_digest_L120 (nI x) n σ a i (fun σ a i => k2 σ a i)) (pC P) σ (mx (fun c => nI (t (7 + 8 * x + c)))) (fun n a r k2 hi => ?_) (pC P) 0 10000 a k (by omega) (by omega)]
    rw [fX11_digest_L120, hM.2.1]
    by_cases q : pC P ≤ r
    · simp (disch := first | omega | (simp only [LCv_3, LCv_12, LCv_18, LCv_19, LCv_20, LCv_21, LCv_22, LCv_23, LCv_27, LCv_28, LCv_29, LCv_30, LCv_31, LCv_32, LCv_33, LCv_34, LCv_35, LCv_40, LCv_42, LCv_43, LCv_44, LCv_45, LCv_47, LCv_49, LCv_50, LCv_51, LMv_1, LMv_2, LMv_3, LMv_4, LMv_5, LMv_6, LMv_7, LMv_8, LMv_9, LMv_10, LMv_11, LMv_12, LMv_13, LMv_15, LMv_16, LMv_17, LMv_18, LMv_19, LMv_20, LMv_21, LMv_22, LMv_23, LMv_24]; omega) | assumption) only [cl_s, pt_s, pv_s, jn_s, L_0, L_1, L_2, L_3, L_4, L_5, L_6, L_7, L_8, L_9, L_10, L_11, L_12, L_16, L_20, L_21, L_25, L_26, L_31, L_40, L_41, L_48, L_55, L_56, L_57, L_58, L_59, L_60, L_61, L_63, L_90, L_97, L_99, L_100, L_122, L_343, L_600, L_999, L_1000, L_2200, L_2256, n_lt, n_le, n_eq, nI_add, pk_mul, rdC, rdM, wrC, wrM, gd_inb, gd_B0, gd_B1, if_pos, if_neg, if_true, if_false, ite_self, Nat.add_zero, Nat.zero_add]
    · rw [if_neg (nI_ge (by omega) (by omega)), if_neg q, L_8, L_7, pk_mul, nI_add, nI_add, rdM (show 7 + 8 * x + r < LM 10 by show _ < 55; omega), tM (7 + 8 * x + r) (by omega), nI_1]
      rfl
/-- a loop whose body's outcome exists -/
theorem ch2 {n : Nat} {p : Nat → Int64 → Int64 → Prop} (H : ∀ j, j < n → ∀ a, ∃ v, p j a v) : ∃ f : Int64 → Nat → Int64, ∀ j, j < n → ∀ a, p j a (f a j) :=
  ⟨fun a j => if h : j < n then (H j h a).choose else 0, fun j hj a => by
    show p j a (if h : j < n then (H j h a).choose else 0)
    rw [dif_pos hj]
    exact (H j hj a).choose_spec⟩
theorem dg2 {τ σ : St} {P : Pl} {t : Tw} (hv : TV τ σ P t) (a : Int64) : ∃ v, (∀ k : St → Int64 → Int32 → Option (St × Int64), fX10_digest_L33 10000 τ a 0 k = k τ v (nI (pC P))) ∧ ∀ k : St → Int64 → Int32 → Option (St × Int64), fX11_digest_L33 10000 σ a 0 k = k σ v (nI (pC P)) := by
  obtain ⟨f, hf⟩ := ch2 (n := pC P) (p := fun c a v => (∀ k : St → Int64 → Int32 → Option (St × Int64), fX10_digest_L47 (nI c) 10000 τ a 0 k = k τ v (nI 4)) ∧ ∀ k : St → Int64 → Int32 → Option (St × Int64), fX11_digest_L44 (nI c) 10000 σ a 0 k = k σ v (nI 4)) (fun c hc a => dg2i hv hc a)
  obtain ⟨hP, hC, hM, ht, tC, tM⟩ := hv
  have h8 := hP.2.1
  refine ⟨fo f 0 (pC P) a, fun k => ?_, fun k => ?_⟩
  · rw [show fX10_digest_L33 10000 τ a 0 k = fX10_digest_L33 10000 τ a (nI 0) k from rfl, aloop (fun n σ a i k2 => fX10_digest_L33 n σ a i (fun σ a i => k2 σ a i)) (pC P) τ f (fun n a r k2 hi => ?_) (pC P) 0 10000 a k (by omega) (by omega)]
    rw [fX10_digest_L33, hC.2.1]
    by_cases q : pC P ≤ r
    · simp (disch := first | omega | (simp only [LCv_3, LCv_12, LCv_18, LCv_19, LCv_20, LCv_21, LCv_22, LCv_23, LCv_27, LCv_28, LCv_29, LCv_30, LCv_31, LCv_32, LCv_33, LCv_34, LCv_35, LCv_40, LCv_42, LCv_43, LCv_44, LCv_45, LCv_47, LCv_49, LCv_50, LCv_51, LMv_1, LMv_2, LMv_3, LMv_4, LMv_5, LMv_6, LMv_7, LMv_8, LMv_9, LMv_10, LMv_11, LMv_12, LMv_13, LMv_15, LMv_16, LMv_17, LMv_18, LMv_19, LMv_20, LMv_21, LMv_22, LMv_23, LMv_24]; omega) | assumption) only [cl_s, pt_s, pv_s, jn_s, L_0, L_1, L_2, L_3, L_4, L_5, L_6, L_7, L_8, L_9, L_10, L_11, L_12, L_16, L_20, L_21, L_25, L_26, L_31, L_40, L_41, L_48, L_55, L_56, L_57, L_58, L_59, L_60, L_61, L_63, L_90, L_97, L_99, L_100, L_122, L_343, L_600, L_999, L_1000, L_2200, L_2256, n_lt, n_le, n_eq, nI_add, pk_mul, rdC, rdM, wrC, wrM, gd_inb, gd_B0, gd_B1, if_pos, if_neg, if_true, if_false, ite_self, Nat.add_zero, Nat.zero_add]
    · rw [if_neg (nI_ge (by omega) (by omega)), if_neg q, (hf r (by omega) a).1, nI_1]
  · rw [show fX11_digest_L33 10000 σ a 0 k = fX11_digest_L33 10000 σ a (nI 0) k from rfl, aloop (fun n σ a i k2 => fX11_digest_L33 n σ a i (fun σ a i => k2 σ a i)) (pC P) σ f (fun n a r k2 hi => ?_) (pC P) 0 10000 a k (by omega) (by omega)]
    rw [fX11_digest_L33, hM.2.1]
    by_cases q : pC P ≤ r
    · simp (disch := first | omega | (simp only [LCv_3, LCv_12, LCv_18, LCv_19, LCv_20, LCv_21, LCv_22, LCv_23, LCv_27, LCv_28, LCv_29, LCv_30, LCv_31, LCv_32, LCv_33, LCv_34, LCv_35, LCv_40, LCv_42, LCv_43, LCv_44, LCv_45, LCv_47, LCv_49, LCv_50, LCv_51, LMv_1, LMv_2, LMv_3, LMv_4, LMv_5, LMv_6, LMv_7, LMv_8, LMv_9, LMv_10, LMv_11, LMv_12, LMv_13, LMv_15, LMv_16, LMv_17, LMv_18, LMv_19, LMv_20, LMv_21, LMv_22, LMv_23, LMv_24]; omega) | assumption) only [cl_s, pt_s, pv_s, jn_s, L_0, L_1, L_2, L_3, L_4, L_5, L_6, L_7, L_8, L_9, L_10, L_11, L_12, L_16, L_20, L_21, L_25, L_26, L_31, L_40, L_41, L_48, L_55, L_56, L_57, L_58, L_59, L_60, L_61, L_63, L_90, L_97, L_99, L_100, L_122, L_343, L_600, L_999, L_1000, L_2200, L_2256, n_lt, n_le, n_eq, nI_add, pk_mul, rdC, rdM, wrC, wrM, gd_inb, gd_B0, gd_B1, if_pos, if_neg, if_true, if_false, ite_self, Nat.add_zero, Nat.zero_add]
    · rw [if_neg (nI_ge (by omega) (by omega)), if_neg q, (hf r (by omega) a).2, nI_1]
theorem dg3 {τ σ : St} {P : Pl} {t : Tw} (hv : TV τ σ P t) (a : Int64) : ∃ v, (∀ k : St → Int64 → Int32 → Option (St × Int64), fX10_digest_L82 10000 τ a 0 k = k τ v (nI (pH P))) ∧ ∀ k : St → Int64 → Int32 → Option (St × Int64), fX11_digest_L79 10000 σ a 0 k = k σ v (nI (pH P)) := by
  obtain ⟨f, hf⟩ := ch2 (n := pH P) (p := fun c a v => (∀ k : St → Int64 → Int32 → Option (St × Int64), fX10_digest_L96 (nI c) 10000 τ a 0 k = k τ v (nI 4)) ∧ ∀ k : St → Int64 → Int32 → Option (St × Int64), fX11_digest_L90 (nI c) 10000 σ a 0 k = k σ v (nI 4)) (fun c hc a => dg3i hv hc a)
  obtain ⟨g, hg⟩ := ch2 (n := pH P) (p := fun c a v => (∀ k : St → Int64 → Int32 → Option (St × Int64), fX10_digest_L126 (nI c) 10000 τ a 0 k = k τ v (nI (pC P))) ∧ ∀ k : St → Int64 → Int32 → Option (St × Int64), fX11_digest_L120 (nI c) 10000 σ a 0 k = k σ v (nI (pC P))) (fun c hc a => dg4i hv hc a)
  obtain ⟨hP, hC, hM, ht, tC, tM⟩ := hv
  have h6 := hP.1
  refine ⟨fo (fun a i => g (f a i) i) 0 (pH P) a, fun k => ?_, fun k => ?_⟩
  · rw [show fX10_digest_L82 10000 τ a 0 k = fX10_digest_L82 10000 τ a (nI 0) k from rfl, aloop (fun n σ a i k2 => fX10_digest_L82 n σ a i (fun σ a i => k2 σ a i)) (pH P) τ (fun a i => g (f a i) i) (fun n a r k2 hi => ?_) (pH P) 0 10000 a k (by omega) (by omega)]
    rw [fX10_digest_L82, hC.1]
    by_cases q : pH P ≤ r
    · simp (disch := first | omega | (simp only [LCv_3, LCv_12, LCv_18, LCv_19, LCv_20, LCv_21, LCv_22, LCv_23, LCv_27, LCv_28, LCv_29, LCv_30, LCv_31, LCv_32, LCv_33, LCv_34, LCv_35, LCv_40, LCv_42, LCv_43, LCv_44, LCv_45, LCv_47, LCv_49, LCv_50, LCv_51, LMv_1, LMv_2, LMv_3, LMv_4, LMv_5, LMv_6, LMv_7, LMv_8, LMv_9, LMv_10, LMv_11, LMv_12, LMv_13, LMv_15, LMv_16, LMv_17, LMv_18, LMv_19, LMv_20, LMv_21, LMv_22, LMv_23, LMv_24]; omega) | assumption) only [cl_s, pt_s, pv_s, jn_s, L_0, L_1, L_2, L_3, L_4, L_5, L_6, L_7, L_8, L_9, L_10, L_11, L_12, L_16, L_20, L_21, L_25, L_26, L_31, L_40, L_41, L_48, L_55, L_56, L_57, L_58, L_59, L_60, L_61, L_63, L_90, L_97, L_99, L_100, L_122, L_343, L_600, L_999, L_1000, L_2200, L_2256, n_lt, n_le, n_eq, nI_add, pk_mul, rdC, rdM, wrC, wrM, gd_inb, gd_B0, gd_B1, if_pos, if_neg, if_true, if_false, ite_self, Nat.add_zero, Nat.zero_add]
    · rw [if_neg (nI_ge (by omega) (by omega)), if_neg q, (hf r (by omega) a).1, (hg r (by omega) _).1, nI_1]
  · rw [show fX11_digest_L79 10000 σ a 0 k = fX11_digest_L79 10000 σ a (nI 0) k from rfl, aloop (fun n σ a i k2 => fX11_digest_L79 n σ a i (fun σ a i => k2 σ a i)) (pH P) σ (fun a i => g (f a i) i) (fun n a r k2 hi => ?_) (pH P) 0 10000 a k (by omega) (by omega)]
    rw [fX11_digest_L79, hM.1]
    by_cases q : pH P ≤ r
    · simp (disch := first | omega | (simp only [LCv_3, LCv_12, LCv_18, LCv_19, LCv_20, LCv_21, LCv_22, LCv_23, LCv_27, LCv_28, LCv_29, LCv_30, LCv_31, LCv_32, LCv_33, LCv_34, LCv_35, LCv_40, LCv_42, LCv_43, LCv_44, LCv_45, LCv_47, LCv_49, LCv_50, LCv_51, LMv_1, LMv_2, LMv_3, LMv_4, LMv_5, LMv_6, LMv_7, LMv_8, LMv_9, LMv_10, LMv_11, LMv_12, LMv_13, LMv_15, LMv_16, LMv_17, LMv_18, LMv_19, LMv_20, LMv_21, LMv_22, LMv_23, LMv_24]; omega) | assumption) only [cl_s, pt_s, pv_s, jn_s, L_0, L_1, L_2, L_3, L_4, L_5, L_6, L_7, L_8, L_9, L_10, L_11, L_12, L_16, L_20, L_21, L_25, L_26, L_31, L_40, L_41, L_48, L_55, L_56, L_57, L_58, L_59, L_60, L_61, L_63, L_90, L_97, L_99, L_100, L_122, L_343, L_600, L_999, L_1000, L_2200, L_2256, n_lt, n_le, n_eq, nI_add, pk_mul, rdC, rdM, wrC, wrM, gd_inb, gd_B0, gd_B1, if_pos, if_neg, if_true, if_false, ite_self, Nat.add_zero, Nat.zero_add]
    · rw [if_neg (nI_ge (by omega) (by omega)), if_neg q, (hf r (by omega) a).2, (hg r (by omega) _).2, nI_1]
theorem dg5 {τ σ : St} {P : Pl} (hK : Kp τ σ P) (a : Int64) : ∃ v, (∀ k : St → Int64 → Int32 → Option (St × Int64), fX10_digest_L170 10000 τ a 0 k = k τ v (nI 3)) ∧ ∀ k : St → Int64 → Int32 → Option (St × Int64), fX11_digest_L166 10000 σ a 0 k = k σ v (nI 3) := by
  refine ⟨fo (mx (τ.1 40)) 0 3 a, fun k => ?_, fun k => ?_⟩
  · rw [show (0 : Int32) = nI 0 from rfl, aloop (fun n σ a i k2 => fX10_digest_L170 n σ a i (fun σ a i => k2 σ a i)) 3 τ (mx (τ.1 40)) (fun n a r k2 hi => ?_) 3 0 10000 a k (by omega) (by omega)]
    rw [fX10_digest_L170]
    by_cases q : 3 ≤ r
    · simp (disch := first | omega | (simp only [LCv_3, LCv_12, LCv_18, LCv_19, LCv_20, LCv_21, LCv_22, LCv_23, LCv_27, LCv_28, LCv_29, LCv_30, LCv_31, LCv_32, LCv_33, LCv_34, LCv_35, LCv_40, LCv_42, LCv_43, LCv_44, LCv_45, LCv_47, LCv_49, LCv_50, LCv_51, LMv_1, LMv_2, LMv_3, LMv_4, LMv_5, LMv_6, LMv_7, LMv_8, LMv_9, LMv_10, LMv_11, LMv_12, LMv_13, LMv_15, LMv_16, LMv_17, LMv_18, LMv_19, LMv_20, LMv_21, LMv_22, LMv_23, LMv_24]; omega) | assumption) only [cl_s, pt_s, pv_s, jn_s, L_0, L_1, L_2, L_3, L_4, L_5, L_6, L_7, L_8, L_9, L_10, L_11, L_12, L_16, L_20, L_21, L_25, L_26, L_31, L_40, L_41, L_48, L_55, L_56, L_57, L_58, L_59, L_60, L_61, L_63, L_90, L_97, L_99, L_100, L_122, L_343, L_600, L_999, L_1000, L_2200, L_2256, n_lt, n_le, n_eq, nI_add, pk_mul, rdC, rdM, wrC, wrM, gd_inb, gd_B0, gd_B1, if_pos, if_neg, if_true, if_false, ite_self, Nat.add_zero, Nat.zero_add]
    · unfold fX3_shelved
      rw [if_neg (show ¬ (3 : Int32) ≤ nI r from nI_ge (b := 3) (by omega) (by omega)), if_neg q, rdC (show r < LC 40 by show r < 3; omega), cl_s, nI_1]
      rfl
  · rw [show fX11_digest_L166 10000 σ a 0 k = fX11_digest_L166 10000 σ a (nI 0) k from rfl, aloop (fun n σ a i k2 => fX11_digest_L166 n σ a i (fun σ a i => k2 σ a i)) 3 σ (mx (τ.1 40)) (fun n a r k2 hi => ?_) 3 0 10000 a k (by omega) (by omega)]
    rw [fX11_digest_L166]
    by_cases q : 3 ≤ r
    · simp (disch := first | omega | (simp only [LCv_3, LCv_12, LCv_18, LCv_19, LCv_20, LCv_21, LCv_22, LCv_23, LCv_27, LCv_28, LCv_29, LCv_30, LCv_31, LCv_32, LCv_33, LCv_34, LCv_35, LCv_40, LCv_42, LCv_43, LCv_44, LCv_45, LCv_47, LCv_49, LCv_50, LCv_51, LMv_1, LMv_2, LMv_3, LMv_4, LMv_5, LMv_6, LMv_7, LMv_8, LMv_9, LMv_10, LMv_11, LMv_12, LMv_13, LMv_15, LMv_16, LMv_17, LMv_18, LMv_19, LMv_20, LMv_21, LMv_22, LMv_23, LMv_24]; omega) | assumption) only [cl_s, pt_s, pv_s, jn_s, L_0, L_1, L_2, L_3, L_4, L_5, L_6, L_7, L_8, L_9, L_10, L_11, L_12, L_16, L_20, L_21, L_25, L_26, L_31, L_40, L_41, L_48, L_55, L_56, L_57, L_58, L_59, L_60, L_61, L_63, L_90, L_97, L_99, L_100, L_122, L_343, L_600, L_999, L_1000, L_2200, L_2256, n_lt, n_le, n_eq, nI_add, pk_mul, rdC, rdM, wrC, wrM, gd_inb, gd_B0, gd_B1, if_pos, if_neg, if_true, if_false, ite_self, Nat.add_zero, Nat.zero_add]
    · rw [if_neg (show ¬ (3 : Int32) ≤ nI r from nI_ge (b := 3) (by omega) (by omega)), if_neg q, gd_inb (by omega) (by omega), jn_s, nI_clamp (by omega), nI_1]
      rcases hK r (by omega) with ⟨e1, e2⟩ | ⟨-, m, ds, d, e1, e2, -, e3, -⟩
      · rw [if_pos e2]
        show _ = fX11_digest_L166 n σ (31 * a + (τ.1 40 r).toInt64) _ _
        rw [e1]
      · rw [if_neg (show ¬ σ.1 14 r = 0 by rw [e2]; decide), show (2256 : Int32) = nI 2256 from rfl, show (55 : Int32) = nI 55 from rfl, pk_mul, nI_add, rdM (show 2256 * r + 55 < LM 13 by show _ < 6768; omega), e3]
        show _ = fX11_digest_L166 n σ (31 * a + (τ.1 40 r).toInt64) _ _
        rw [e1]
theorem s_digest (τ σ : St) (h : Rel τ σ) : ∃ (τ' σ' : St) (r : Int64), fX10_digest τ = some (τ', r) ∧ fX11_digest σ = some (σ', r) ∧ Rel τ' σ' := by
  have h0 := h
  obtain ⟨P, t, hv⟩ := h.view
  obtain ⟨-, hr, hx, P2, ds, n, -, -, -, -, -, -, -, -, hK⟩ := h
  obtain ⟨v1, c1, m1⟩ := dg1 h0 17
  obtain ⟨v2, c2, m2⟩ := dg2 hv v1
  obtain ⟨v3, c3, m3⟩ := dg3 hv v2
  obtain ⟨v4, c4, m4⟩ := dg5 hK v3
  obtain ⟨v5, c5, m5⟩ := mix1C hr v4
  obtain ⟨v6, c6, m6⟩ := mix10C hx v5
  refine ⟨τ, σ, v6, ?_, ?_, h0⟩
  · unfold fX10_digest
    rw [c1, c2, c3, c4, c5, cl_s, c6]
    rfl
  · unfold fX11_digest
    rw [m1, m2, m3, m4, m5, m6]
theorem s_mean (τ σ : St) (h : Rel τ σ) (a1 : Int32) : ∃ (τ' σ' : St) (r : Int32), fX10_mean τ a1 = some (τ', r) ∧ fX11_mean σ a1 = some (σ', r) ∧ Rel τ' σ' := by
  unfold fX10_mean fX11_mean
  rcases ix_cases a1 6 (by omega) with ⟨r, hr, rfl⟩ | hbad
  · rw [isOne1_yes τ hr, isRow_yes σ hr]
    simp only [cl_s, o10, if_false]
    obtain ⟨g1, g2, g3⟩ := h.2.1 r hr
    rw [rdM (show r < LM 1 from hr)]
    rcases g2 with hm | ⟨n, hn, hz⟩
    · rw [miss1_y τ hr (g1.trans hm), hm, if_neg (show ¬ (0 : Int32) ≤ -1 by decide)]
      simp only [cl_s, o10, if_false]
      rw [show (1 : Int32) = nI 1 from rfl, refu_ev τ (by omega), fnd_ev σ (by omega)]
      exact ⟨_, _, _, rfl, rfl, h.found (by omega)⟩
    · rw [miss1_n τ hr (by omega) (g1.trans hz), hz, if_pos (nI_pos' (by omega)), rdM (show r < LM 1 from hr), hz]
      simp only [cl_s, if_true]
      unfold fX7_sizeOf_1
      rw [rdC (show r < LC 3 from hr), g1, hz]
      simp only [cl_s]
      by_cases h0 : n = 0
      · subst h0
        rw [if_neg (show ¬ (0 : Int32) < nI 0 by decide), if_pos (show nI 0 = (0 : Int32) from rfl), show (4 : Int32) = nI 4 from rfl, refu_ev τ (by omega), fnd_ev σ (by omega)]
        exact ⟨_, _, _, rfl, rfl, h.found (by omega)⟩
      · have hL := LC_row hr
        rw [if_pos (show (0 : Int32) < nI n from nI_lt (a := 0) (by omega) (by omega)), if_neg (nI_ne0 (by omega) (by omega))]
        unfold fX7_sumOf_1
        rw [show (0 : Int32) = nI 0 from rfl, aloop (fun n σ a i k2 => fX7_sumOf_1_L5 (nI r) n σ a i (fun σ a i => k2 σ a i)) n τ (fun a i => a + (σ.1 2 (40 * r + i)).toInt64) (fun m a i k2 hi => ?_) n 0 10000 0 _ (by omega) (by omega), aloop (fun n σ a i k2 => fX11_mean_L44 (nI r) n σ a i (fun σ a i => k2 σ a i)) n σ (fun a i => a + (σ.1 2 (40 * r + i)).toInt64) (fun m a i k2 hi => ?_) n 0 10000 0 _ (by omega) (by omega)]
        · simp only [cl_s]
          have hnz : ¬ (nI n).toInt64 = 0 := fun e => by
            rw [← Int64.toInt_inj, Int32.toInt_toInt64, nI_toInt (by omega)] at e
            have : (0 : Int64).toInt = 0 := rfl
            omega
          rw [rdM (show r < LM 1 from hr), hz, gd_t (decide_eq_true hnz), gd_t (decide_eq_true hnz)]
          unfold fX11_tell
          exact ⟨_, _, _, rfl, rfl, h.told _⟩
        · rw [fX11_mean_L44, rdM (show r < LM 1 from hr), hz]
          by_cases q : n ≤ i
          · rw [if_pos (nI_le q (by omega)), if_pos q]
          · rw [if_neg (nI_ge (by omega) (by omega)), if_neg q, L_40, pk_mul, nI_add, rdM (show 40 * r + i < LM 2 by show _ < 240; omega), nI_1]
        · rw [fX7_sumOf_1_L5, rdC (show r < LC 3 from hr), g1, hz]
          by_cases q : n ≤ i
          · rw [if_pos (nI_le q (by omega)), if_pos q]
          · rw [if_neg (nI_ge (by omega) (by omega)), if_neg q, gd_inb hr (by omega), nI_clamp (by omega), rdC (by omega), g3 i (by omega), nI_1]
  · rw [isOne1_no τ hbad, isRow_no σ hbad]
    exact ⟨τ, σ, _, rfl, rfl, h⟩
