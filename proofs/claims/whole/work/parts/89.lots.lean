/-! step: lots -/
theorem pk_rem' (a d : Nat) : nI a - nI (a / d * d) = nI (a % d) := by
  rw [pk_sub (Nat.div_mul_le_self a d), Nat.mod_eq_sub_div_mul]
theorem nI_gt (n : Nat) (h0 : 0 < n) (h : n < 2 ^ 31) : (0 : Int32) < nI n := nI_lt (a := 0) h0 h
theorem lN_32 (a : Nat) : (lN a).toInt32 = nI a := Int64.toInt32_ofNat
theorem deedsC {τ σ : St} {P : Pl} {t : Tw} (hP : PlanOk P) (hH : pH P ≠ 0) (hC : PlC τ P) (hM : PlM σ P) (ht : TwOk P t) (tC : TwC τ P t) (tM : TwM (σ.1 10) t) {w : Nat} (hw : w < 2147483647) : ∃ d, fX10_deedBy τ (nI w) = some (τ, nI d) ∧ valid P t d ∧ ∃ ρ, fX11_falls σ (lN w) = some (ρ, ()) ∧ eqB 10 σ ρ ∧ TwM (ρ.1 10) (perf P t d) := by
  have h6 := hP.1
  have h8 := hP.2.1
  have h2 : 2 ≤ pH P ∧ 1 ≤ pC P := by
    rcases hP.2.2.1 with q | q
    · exact absurd q.1 hH
    · exact q
  have t99 := ht.1
  obtain ⟨x, ex⟩ : ∃ x, w / 8 % pH P = x := ⟨_, rfl⟩
  obtain ⟨c, ec⟩ : ∃ c, w / 64 % pC P = c := ⟨_, rfl⟩
  obtain ⟨y, ey⟩ : ∃ y, (x + 1) % pH P = y := ⟨_, rfl⟩
  obtain ⟨m, em⟩ : ∃ m, w % 8 = m := ⟨_, rfl⟩
  have hx : x < pH P := by rw [← ex]; exact Nat.mod_lt _ (by omega)
  have hc : c < pC P := by rw [← ec]; exact Nat.mod_lt _ (by omega)
  have hy : y < pH P := by rw [← ey]; exact Nat.mod_lt _ (by omega)
  have hxy : x ≠ y := by
    rw [← ey]
    by_cases q : x + 1 < pH P
    · rw [Nat.mod_eq_of_lt q]; omega
    · rw [show x + 1 = pH P by omega, Nat.mod_self]; omega
  have hm : m < 8 := by omega
  have e1 : nI w / 8 - nI w / 8 / nI (pH P) * nI (pH P) = nI x := by
    rw [L_8, pk_div (by omega) (by omega) (by omega), pk_rem (by omega) (by omega) (by omega), ex]
  have e2 : nI w / 64 - nI w / 64 / nI (pC P) * nI (pC P) = nI c := by
    rw [show (64 : Int32) = nI 64 from rfl, pk_div (by omega) (by omega) (by omega), pk_rem (by omega) (by omega) (by omega), ec]
  have e3 : nI x + 1 - (nI x + 1) / nI (pH P) * nI (pH P) = nI y := by
    rw [L_1, nI_add, pk_rem (by omega) (by omega) (by omega), ey]
  have e4 : nI w - nI w / 8 * 8 = nI m := by
    rw [L_8, pk_rem (by omega) (by omega) (by omega), em]
  have l1 : (lN w / 8 - lN w / 8 / (nI (pH P)).toInt64 * (nI (pH P)).toInt64).toInt32 = nI x := by
    rw [nI_l (by omega), show (8 : Int64) = lN 8 from rfl, pk_lDiv (by omega) (by omega) (by omega), pk_lRem (by omega) (by omega) (by omega), ex, lN_32]
  have l2 : (lN w / 64 - lN w / 64 / (nI (pC P)).toInt64 * (nI (pC P)).toInt64).toInt32 = nI c := by
    rw [nI_l (by omega), show (64 : Int64) = lN 64 from rfl, pk_lDiv (by omega) (by omega) (by omega), pk_lRem (by omega) (by omega) (by omega), ec, lN_32]
  have l4 : (lN w - lN w / 8 * 8).toInt32 = nI m := by
    rw [show (8 : Int64) = lN 8 from rfl, pk_lRem (by omega) (by omega) (by omega), em, lN_32]
  have gH : decide (¬ nI (pH P) = 0) = true := decide_eq_true (nI_ne0 (by omega) (by omega))
  have gC : decide (¬ nI (pC P) = 0) = true := decide_eq_true (nI_ne0 (by omega) (by omega))
  have jH : decide (¬ (nI (pH P)).toInt64 = 0) = true := decide_eq_true (by rw [nI_l (by omega)]; exact fun q => absurd ((pk_lEQ (b := 0) (by omega) (by omega)).mp q) (by omega))
  have jC : decide (¬ (nI (pC P)).toInt64 = 0) = true := decide_eq_true (by rw [nI_l (by omega)]; exact fun q => absurd ((pk_lEQ (b := 0) (by omega) (by omega)).mp q) (by omega))
  have ux := ht.2.1 x hx
  have uy := ht.2.1 y hy
  unfold fX10_deedBy fX11_falls
  rw [hC.1, hC.2.1, e1, e2, e3, e4, jn_s, if_neg (show ¬ nI (pH P) ≤ (0 : Int32) from nI_nle (by omega) (by omega)), if_pos (nI_gt _ (by omega) (by omega)), gd_t gH, hM.1, hM.2.1, l1, l2, l4, e3, gd_t jH]
  by_cases m1 : 1 < m
  · rw [if_pos (show (1 : Int32) < nI m from nI_lt (a := 1) m1 (by omega)), if_pos (show (2 : Int32) ≤ nI m from nI_le (a := 2) m1 (by omega))]
    by_cases m2 : m = 2
    · rw [if_pos (show nI m = 2 by rw [m2]; rfl), if_pos (show nI m = 2 by rw [m2]; rfl), gd_t gH, gd_t gH, rdC (show x < LC 33 by show x < 6; omega), tC.2.1 x hx, L_1, nI_add, nI_add, rdM (show 1 + y < LM 10 by show _ < 55; omega), tM (1 + y) (by omega)]
      simp only [jn_s, pv_s, if_true]
      rw [rdM (show 1 + x < LM 10 by show _ < 55; omega), tM (1 + x) (by omega), rdM (show 1 + x < LM 10 by show _ < 55; omega), tM (1 + x) (by omega), rdC (show y < LC 33 by show y < 6; omega), tC.2.1 y hy]
      by_cases q : t (1 + x) = 0 ∨ 99 ≤ t (1 + y)
      · refine ⟨0 + 16 * x + 256 * 0 + 4096 * y + 65536 * 1, ?_, ⟨by omega, Or.inl (pk_wy (by omega))⟩, σ, ?_, eqB.rf _ _, ?_⟩
        · rw [L_0, packC τ (by omega) (by omega) (by omega) (by omega) (by omega), cl_s]
          by_cases q1 : t (1 + x) = 0
          · rw [if_pos (nI_lt (by omega) (by omega))]
          · rw [if_neg (nI_nlt (by omega) (by omega)), if_pos (show (99 : Int32) ≤ nI (t (1 + y)) from nI_le (a := 99) (by omega) (by omega))]
        · by_cases q1 : 99 ≤ t (1 + y)
          · rw [if_pos (show (99 : Int32) ≤ nI (t (1 + y)) from nI_le (a := 99) (by omega) (by omega))]
          · rw [if_neg (show ¬ (99 : Int32) ≤ nI (t (1 + y)) from nI_ge (b := 99) (by omega) (by omega)), if_pos (show nI (t (1 + x)) ≤ (0 : Int32) from nI_le (b := 0) (by omega) (by omega))]
        · unfold perf
          rw [pk_wy (by omega), if_neg (by omega), if_neg (by omega), if_neg (by omega), if_neg (by omega)]
          exact tM
      · refine ⟨4 + 16 * x + 256 * 0 + 4096 * y + 65536 * 1, ?_, ?_, su (su σ 10 (1 + x) (nI (t (1 + x) - 1))) 10 (1 + y) (nI (t (1 + y) + 1)), ?_, eqB.w.trans eqB.w, ?_⟩
        · rw [if_neg (nI_nlt (by omega) (by omega)), if_neg (show ¬ (99 : Int32) ≤ nI (t (1 + y)) from nI_ge (b := 99) (by omega) (by omega)), if_neg (show ¬ nI 1 = 0 by decide), L_0, L_4, packC τ (by omega) (by omega) (by omega) (by omega) (by omega), cl_s]
        · unfold valid
          rw [pk_wy (by omega), pk_dh (by omega) (by omega), pk_dg (by omega) (by omega) (by omega) (by omega), pk_dd (by omega) (by omega) (by omega) (by omega) (by omega)]
          exact ⟨by omega, Or.inr (Or.inr (Or.inr (Or.inr ⟨rfl, hx, hy, hxy, by omega, by omega, by omega, by omega⟩)))⟩
        · rw [if_neg (show ¬ (99 : Int32) ≤ nI (t (1 + y)) from nI_ge (b := 99) (by omega) (by omega)), if_neg (show ¬ nI (t (1 + x)) ≤ (0 : Int32) from nI_nle (by omega) (by omega)), pk_sub (by omega), wrM (show 1 + x < LM 10 by show _ < 55; omega), rdM (show 1 + y < LM 10 by show _ < 55; omega), su_11, if_neg (by omega), tM (1 + y) (by omega), nI_add, wrM (show 1 + y < LM 10 by show _ < 55; omega)]
        · unfold perf
          rw [pk_wy (by omega), pk_dh (by omega) (by omega), pk_dg (by omega) (by omega) (by omega) (by omega), pk_dd (by omega) (by omega) (by omega) (by omega) (by omega), if_neg (by omega), if_neg (by omega), if_neg (by omega), if_pos rfl]
          intro j hj
          rw [su_11, su_11]
          unfold lendT
          by_cases a1 : j = 1 + y
          · rw [if_pos ⟨rfl, a1⟩, if_neg (by omega), if_pos a1]
          · rw [if_neg (fun w => a1 w.2)]
            by_cases a2 : j = 1 + x
            · rw [if_pos ⟨rfl, a2⟩, if_pos a2]
            · rw [if_neg (fun w => a2 w.2), if_neg a2, if_neg a1, tM j hj]
    · rw [if_neg (show ¬ nI m = (2 : Int32) from fun q => m2 ((nI_eq (b := 2) (by omega) (by omega)).mp q)), if_neg (show ¬ nI m = (2 : Int32) from fun q => m2 ((nI_eq (b := 2) (by omega) (by omega)).mp q)), gd_t gC, gd_t jC, hasC ht tC (by omega) (by omega), ownsM ht rfl tM (by omega) (by omega)]
      have hp18 : pay (kd P x) (pr P c) ≤ 18 := pay_le (hP.2.2.2.2 c hc).1.2
      simp only [cl_s, jn_s, pv_s, ow0, if_true]
      rw [paysC hP hC hx hc, paysM hP hM hx hc, cl_s, rdC (show x < LC 33 by show x < 6; omega), tC.2.1 x hx, L_1, nI_add, rdM (show 1 + x < LM 10 by show _ < 55; omega), tM (1 + x) (by omega), cl_s]
      by_cases q : t (7 + 8 * x + c) = 0 ∧ pay (kd P x) (pr P c) ≤ t (1 + x)
      · obtain ⟨ρ, f1, f2, f3⟩ := buysM hP hM ht tM hx hc q.2
        refine ⟨2 + 16 * x + 256 * c + 4096 * 0 + 65536 * 0, ?_, ?_, ρ, ?_, f2, ?_⟩
        · rw [if_pos q.1, if_neg (nI_nlt q.2 (by omega)), if_neg (show ¬ nI 1 = 0 by decide), L_0, L_2, packC τ (by omega) (by omega) (by omega) (by omega) (by omega), cl_s]
        · unfold valid
          rw [pk_wy (by omega), pk_dh (by omega) (by omega), pk_dc (by omega) (by omega) (by omega)]
          exact ⟨by omega, Or.inr (Or.inr (Or.inl ⟨rfl, hx, hc, q.1, q.2⟩))⟩
        · rw [if_pos q.1, if_neg (nI_nlt q.2 (by omega)), f1, cl_s]
        · unfold perf
          rw [pk_wy (by omega), pk_dh (by omega) (by omega), pk_dc (by omega) (by omega) (by omega), if_neg (by omega), if_pos rfl]
          exact f3
      · refine ⟨0 + 16 * x + 256 * c + 4096 * 0 + 65536 * 0, ?_, ⟨by omega, Or.inl (pk_wy (by omega))⟩, σ, ?_, eqB.rf _ _, ?_⟩
        · rw [L_0, packC τ (by omega) (by omega) (by omega) (by omega) (by omega), cl_s]
          by_cases q1 : t (7 + 8 * x + c) = 0
          · rw [if_pos q1, if_pos (nI_lt (by omega) (by omega))]
          · rw [if_neg q1]
        · by_cases q1 : t (7 + 8 * x + c) = 0
          · rw [if_pos q1, if_pos (nI_lt (by omega) (by omega))]
          · rw [if_neg q1]
        · unfold perf
          rw [pk_wy (by omega), if_neg (by omega), if_neg (by omega), if_neg (by omega), if_neg (by omega)]
          exact tM
  · rw [if_neg (show ¬ (1 : Int32) < nI m from nI_nlt (a := 1) (by omega) (by omega)), if_neg (show ¬ (2 : Int32) ≤ nI m from nI_ge (b := 2) (by omega) (by omega)), tC.1, L_0, rdM (show 0 < LM 10 by decide), tM 0 (by omega), pv_s]
    by_cases q : 99 ≤ t 0
    · refine ⟨0 + 16 * 0 + 256 * 0 + 4096 * 0 + 65536 * 0, ?_, ⟨by omega, Or.inl (pk_wy (by omega))⟩, σ, ?_, eqB.rf _ _, ?_⟩
      · rw [if_pos (show (99 : Int32) ≤ nI (t 0) from nI_le (a := 99) q (by omega)), packC τ (by omega) (by omega) (by omega) (by omega) (by omega), cl_s]
      · rw [if_pos (show (99 : Int32) ≤ nI (t 0) from nI_le (a := 99) q (by omega))]
      · unfold perf
        rw [pk_wy (by omega), if_neg (by omega), if_neg (by omega), if_neg (by omega), if_neg (by omega)]
        exact tM
    · obtain ⟨ρ, f1, f2, f3⟩ := passM hP hM (Or.inl rfl) ht.w tM
      refine ⟨1 + 16 * 0 + 256 * 0 + 4096 * 0 + 65536 * 0, ?_, ?_, ρ, ?_, f2, ?_⟩
      · rw [if_neg (show ¬ (99 : Int32) ≤ nI (t 0) from nI_ge (b := 99) (by omega) (by omega)), L_1, packC τ (by omega) (by omega) (by omega) (by omega) (by omega), cl_s]
      · unfold valid
        rw [pk_wy (by omega)]
        exact ⟨by omega, Or.inr (Or.inl ⟨rfl, by omega⟩)⟩
      · rw [if_neg (show ¬ (99 : Int32) ≤ nI (t 0) from nI_ge (b := 99) (by omega) (by omega)), show fX11_passes σ 10 (nI 0) = _ from f1, cl_s]
      · unfold perf
        rw [pk_wy (by omega), if_pos rfl]
        exact f3
theorem s_lots (τ σ : St) (h : Rel τ σ) (a1 a2 : Int32) : ∃ (τ' σ' : St) (r : Int32), fX10_lots τ a1 a2 = some (τ', r) ∧ fX11_lots σ a1 a2 = some (σ', r) ∧ Rel τ' σ' := by
  obtain ⟨P, ds, n, ho⟩ := h.ro
  obtain ⟨hP, hC, hM⟩ := ho.plan
  obtain ⟨n40, n1, n2⟩ := ho.n40
  have h6 := hP.1
  unfold fX10_lots fX11_lots
  by_cases hr : ((1 : Nat) : Int) ≤ a1.toInt ∧ a1.toInt ≤ (20 : Nat)
  case neg =>
    rw [show fX11_in σ a1.toInt64 1 20 = some (σ, nI 0) from in_out σ (a := 1) (n := 20) (by omega) (by omega) hr, cl_s, if_pos (show nI 0 = (0 : Int32) from rfl)]
    by_cases w : a1 < 1
    · rw [if_pos w]
      exact ⟨_, _, _, rfl, rfl, h⟩
    · rw [if_neg w, if_pos (show (20 : Int32) < a1 by rw [i_lt] at w ⊢; have e1 : (1 : Int32).toInt = 1 := rfl; have e20 : (20 : Int32).toInt = 20 := rfl; omega)]
      exact ⟨_, _, _, rfl, rfl, h⟩
  obtain ⟨m, m1, m20, rfl⟩ := between hr (by omega)
  rw [show fX11_in σ (nI m).toInt64 1 20 = _ from in_nI σ (a := 1) (n := 20) (by omega) (by omega) (by omega), cl_s, if_pos (show 1 ≤ m ∧ m ≤ 20 by omega), if_neg (show ¬ nI 1 = (0 : Int32) by decide), if_neg (show ¬ nI m < (1 : Int32) from nI_nlt (b := 1) m1 (by omega)), if_neg (show ¬ (20 : Int32) < nI m from nI_nlt (a := 20) m20 (by omega))]
  by_cases hs : ((1 : Nat) : Int) ≤ a2.toInt ∧ a2.toInt ≤ (2147483646 : Nat)
  case neg =>
    rw [show fX11_in σ a2.toInt64 1 2147483646 = some (σ, nI 0) from in_out σ (a := 1) (n := 2147483646) (by omega) (by omega) hs, cl_s, if_pos (show nI 0 = (0 : Int32) from rfl)]
    by_cases w : a2 < 1
    · rw [if_pos w]
      exact ⟨_, _, _, rfl, rfl, h⟩
    · rw [if_neg w, if_neg (show ¬ a2 < 2147483647 by rw [i_lt] at w ⊢; have e1 : (1 : Int32).toInt = 1 := rfl; have e20 : (2147483647 : Int32).toInt = 2147483647 := rfl; omega)]
      exact ⟨_, _, _, rfl, rfl, h⟩
  obtain ⟨u, u1, u2, rfl⟩ := between hs (by omega)
  rw [show fX11_in σ (nI u).toInt64 1 2147483646 = _ from in_nI σ (a := 1) (n := 2147483646) (by omega) (by omega) (by omega), cl_s, if_pos (show 1 ≤ u ∧ u ≤ 2147483646 by omega), if_neg (show ¬ nI 1 = (0 : Int32) by decide), if_neg (show ¬ nI u < (1 : Int32) from nI_nlt (b := 1) u1 (by omega)), if_pos (show nI u < (2147483647 : Int32) from nI_lt (b := 2147483647) (by omega) (by omega)), hC.1, hM.1]
  by_cases z : pH P = 0
  · rw [if_pos (show nI (pH P) = 0 by rw [z]; rfl), if_pos (show nI (pH P) = 0 by rw [z]; rfl)]
    exact ⟨_, _, _, rfl, rfl, h⟩
  rw [if_neg (nI_ne0 (by omega) (by omega)), if_neg (nI_ne0 (by omega) (by omega)), roomC n1 n40 (by omega), cl_s, n2, nI_add]
  by_cases g : 40 < n + m
  · rw [if_pos g, if_pos rfl, if_neg (show ¬ nI (n + m) ≤ (40 : Int32) from nI_ge (a := 40) g (by omega))]
    exact ⟨_, _, _, rfl, rfl, h⟩
  rw [if_neg g, if_neg (by decide), if_pos (show nI (n + m) ≤ (40 : Int32) from nI_le (b := 40) (by omega) (by omega)), nI_l (by omega)]
  suffices H : ∀ q i fuel (τ1 σ1 : St) ds1 u1, i + q = m → q < fuel → u1 < 2147483647 → RO τ1 σ1 P ds1 (n + i) → ∃ (τ2 σ2 : St) (ds2 : Nat → Nat), RO τ2 σ2 P ds2 (n + m) ∧ fX10_lots_L58 (nI m) fuel τ1 (lN u1) (nI i) (fun σ10 v11 v12 => cl (fX9_things σ10) (fun σ13 r14 => some (σ13, r14))) = (cl (fX9_things τ2) (fun σ13 r14 => some (σ13, r14))) ∧ fX11_lots_L56 (nI m) fuel σ1 (lN u1) (nI i) (fun σ12 v13 v14 => cl (fX11_things σ12) (fun σ15 r16 => some (σ15, r16))) = (cl (fX11_things σ2) (fun σ15 r16 => some (σ15, r16))) by
    obtain ⟨τ2, σ2, ds2, r1, r2, r3⟩ := H m 0 10000 τ σ ds u (by omega) (by omega) (by omega) ho
    obtain ⟨ht, tC, tM⟩ := r1.twn
    rw [L_0, r2, r3, thingsC ht tC, thingsM ht tM]
    exact ⟨_, _, _, rfl, rfl, r1.rel⟩
  intro q
  induction q with
  | zero =>
    intro i fuel τ1 σ1 ds1 u1 hi hf hu hr1
    match fuel, hf with
    | f + 1, _ =>
      rw [show i = m by omega] at hr1 ⊢
      refine ⟨τ1, σ1, ds1, hr1, ?_, ?_⟩
      · rw [fX10_lots_L58, if_pos (nI_le (by omega) (by omega))]
      · rw [fX11_lots_L56, if_pos (nI_le (by omega) (by omega))]
  | succ q ih =>
    intro i fuel τ1 σ1 ds1 u1 hi hf hu hr1
    match fuel, hf with
    | f + 1, hf =>
      obtain ⟨hP1, hC1, hM1⟩ := hr1.plan
      obtain ⟨ht, tC, tM⟩ := hr1.twn
      have lot : lN u1 * 48271 - lN u1 * 48271 / 2147483647 * 2147483647 = lN (u1 * 48271 % 2147483647) := by
        rw [show (48271 : Int64) = lN 48271 from rfl, show (2147483647 : Int64) = lN 2147483647 from rfl, lN_mul, pk_lRem (by omega) (by omega) (by omega)]
      have hw : u1 * 48271 % 2147483647 < 2147483647 := Nat.mod_lt _ (by omega)
      obtain ⟨d, f1, f2, ρ, f3, f4, f5⟩ := deedsC (σ := notd σ1 (n + i)) hP1 z hC1 (notd_pl hM1) ht tC (by rw [notd_10]; exact tM) hw
      obtain ⟨τ', e1, e2, e3, e4, e5⟩ := hr1.adds z (by omega) f2
      obtain ⟨τ2, σ2, ds2, r1, r2, r3⟩ := ih (i + 1) f τ' ρ (snoc ds1 (n + i) d) (u1 * 48271 % 2147483647) (by omega) (by omega) hw (e5 ρ f4 f5)
      refine ⟨τ2, σ2, ds2, r1, ?_, ?_⟩
      · rw [fX10_lots_L58, if_neg (nI_ge (by omega) (by omega)), lot, lN_32, f1, cl_s, e1, cl_s, nI_1, r2]
      · rw [fX11_lots_L56, if_neg (nI_ge (by omega) (by omega)), lot, e4, cl_s, f3, cl_s, nI_1, r3]
