/-! steps: buy, month, trade, lend -/
theorem pk_wy {a b c d e : Nat} (ha : a < 16) : wy (a + 16 * b + 256 * c + 4096 * d + 65536 * e) = a := by unfold wy; omega
theorem pk_dh {a b c d e : Nat} (ha : a < 16) (hb : b < 16) : dh (a + 16 * b + 256 * c + 4096 * d + 65536 * e) = b := by unfold dh; omega
theorem pk_dc {a b c d e : Nat} (ha : a < 16) (hb : b < 16) (hc : c < 16) : dc (a + 16 * b + 256 * c + 4096 * d + 65536 * e) = c := by unfold dc; omega
theorem pk_dg {a b c d e : Nat} (ha : a < 16) (hb : b < 16) (hc : c < 16) (hd : d < 16) : dg (a + 16 * b + 256 * c + 4096 * d + 65536 * e) = d := by unfold dg; omega
theorem pk_dd {a b c d e : Nat} (ha : a < 16) (hb : b < 16) (hc : c < 16) (hd : d < 16) (he : e < 16) : dd (a + 16 * b + 256 * c + 4096 * d + 65536 * e) = e := by unfold dd; omega
theorem s_buy (τ σ : St) (h : Rel τ σ) (a1 a2 : Int32) : ∃ (τ' σ' : St) (r : Int32), fX10_buy τ a1 a2 = some (τ', r) ∧ fX11_buy σ a1 a2 = some (σ', r) ∧ Rel τ' σ' := by
  obtain ⟨P, ds, n, ho⟩ := h.ro
  obtain ⟨hP, hC, hM⟩ := ho.plan
  obtain ⟨ht, tC, tM⟩ := ho.twn
  obtain ⟨n40, n1, n2⟩ := ho.n40
  have h6 := hP.1
  have h8 := hP.2.1
  unfold fX10_buy fX11_buy
  rcases ix_cases a1 (pH P) (by omega) with ⟨x, hx, rfl⟩ | hbad
  · rw [isHouseC_y hP hC hx, isHouseM_y hP hM hx]
    simp only [cl_s, o10, if_false]
    rcases ix_cases a2 (pC P) (by omega) with ⟨c, hc, rfl⟩ | hbad
    · rw [isColourC_y hP hC hc, isColourM_y hP hM hc]
      simp only [cl_s, o10, if_false]
      rw [hasC ht tC (by omega) (by omega), ownsM ht rfl tM (by omega) (by omega)]
      simp only [cl_s, ow0]
      by_cases q : rep P ds n (7 + 8 * x + c) = 0
      · rw [if_pos q, if_pos q, paysC hP hC hx hc, paysM hP hM hx hc, cl_s, rdC (show x < LC 33 by show x < 6; omega), tC.2.1 x hx, L_1, nI_add, rdM (show 1 + x < LM 10 by show _ < 55; omega), cl_s, tM (1 + x) (by omega)]
        have hu := ht.2.1 x hx
        have hp18 : pay (kd P x) (pr P c) ≤ 18 := pay_le (hP.2.2.2.2 c hc).1.2
        by_cases p : pay (kd P x) (pr P c) ≤ rep P ds n (1 + x)
        · rw [if_pos (nI_le p (by omega)), if_pos (nI_le p (by omega)), roomC n1 n40 (by omega), cl_s, n2]
          by_cases g : n = 40
          · rw [if_pos (show 40 < n + 1 by omega), if_pos rfl, if_pos (show nI n = 40 by rw [g]; rfl)]
            exact ⟨_, _, _, rfl, rfl, h⟩
          · rw [if_neg (show ¬ 40 < n + 1 by omega), if_neg (show ¬ nI n = (40 : Int32) from fun e => g ((nI_eq (b := 40) (by omega) (by omega)).mp e)), if_neg (by decide), L_2, L_0, packC τ (by omega) (show x < 16 by omega) (show c < 16 by omega) (by omega) (by omega), cl_s]
            have hv : valid P (rep P ds n) (2 + 16 * x + 256 * c + 4096 * 0 + 65536 * 0) := by
              unfold valid
              rw [pk_wy (by omega), pk_dh (by omega) (by omega), pk_dc (by omega) (by omega) (by omega)]
              exact ⟨by omega, Or.inr (Or.inr (Or.inl ⟨rfl, hx, hc, q, p⟩))⟩
            obtain ⟨τ', e1, e2, e3, e4, e5⟩ := ho.adds (by omega) (by omega) hv
            have ep : perf P (rep P ds n) (2 + 16 * x + 256 * c + 4096 * 0 + 65536 * 0) = buyT P (rep P ds n) x c := by
              unfold perf
              rw [pk_wy (by omega), pk_dh (by omega) (by omega), pk_dc (by omega) (by omega) (by omega), if_neg (by omega), if_pos rfl]
            rw [ep] at e2 e5
            obtain ⟨ρ, f1, f2, f3⟩ := buysM hP (notd_pl (n := n) hM) ht (show TwM ((notd σ n).1 10) (rep P ds n) by rw [notd_10]; exact tM) hx hc p
            rw [e1, cl_s, rdC (show x < LC 33 by show x < 6; omega), e2.2.1 x hx, e4, cl_s, f1, cl_s, rdM (show 1 + x < LM 10 by show _ < 55; omega), f3 (1 + x) (by omega)]
            exact ⟨_, _, _, rfl, rfl, (e5 ρ f2 f3).rel⟩
        · rw [if_neg (nI_ge (by omega) (by omega)), if_neg (nI_ge (by omega) (by omega))]
          exact ⟨_, _, _, rfl, rfl, h⟩
      · rw [if_neg q, if_neg q]
        exact ⟨_, _, _, rfl, rfl, h⟩
    · rw [isColourC_n hC hbad, isColourM_n hP hM hbad]
      exact ⟨_, _, _, rfl, rfl, h⟩
  · rw [isHouseC_n hC hbad, isHouseM_n hP hM hbad]
    exact ⟨_, _, _, rfl, rfl, h⟩
theorem s_month (τ σ : St) (h : Rel τ σ) : ∃ (τ' σ' : St) (r : Int32), fX10_month τ = some (τ', r) ∧ fX11_month σ = some (σ', r) ∧ Rel τ' σ' := by
  obtain ⟨P, ds, n, ho⟩ := h.ro
  obtain ⟨hP, hC, hM⟩ := ho.plan
  obtain ⟨ht, tC, tM⟩ := ho.twn
  obtain ⟨n40, n1, n2⟩ := ho.n40
  have h6 := hP.1
  have h8 := hP.2.1
  have t99 := ht.1
  unfold fX10_month fX11_month
  rw [hC.1, hM.1]
  by_cases z : pH P = 0
  · rw [if_pos (show nI (pH P) = 0 by rw [z]; rfl), if_pos (show nI (pH P) = 0 by rw [z]; rfl)]
    exact ⟨_, _, _, rfl, rfl, h⟩
  · rw [if_neg (nI_ne0 (by omega) (by omega)), if_neg (nI_ne0 (by omega) (by omega)), tC.1, L_0, rdM (show 0 < LM 10 by decide), tM 0 (by omega)]
    by_cases e : rep P ds n 0 = 99
    · rw [if_neg (show ¬ nI (rep P ds n 0) < (99 : Int32) by rw [e]; decide), if_pos (show nI (rep P ds n 0) = (99 : Int32) by rw [e]; rfl)]
      exact ⟨_, _, _, rfl, rfl, h⟩
    · rw [if_pos (show nI (rep P ds n 0) < (99 : Int32) from nI_lt (b := 99) (by omega) (by omega)), if_neg (show ¬ nI (rep P ds n 0) = (99 : Int32) from fun w => e ((nI_eq (b := 99) (by omega) (by omega)).mp w)), L_1, roomC n1 n40 (by omega), cl_s, n2]
      by_cases g : n = 40
      · rw [if_pos (show 40 < n + 1 by omega), if_pos (show (0 : Int32) = nI 0 from rfl), if_pos (show nI n = 40 by rw [g]; rfl)]
        exact ⟨_, _, _, rfl, rfl, h⟩
      · rw [if_neg (show ¬ 40 < n + 1 by omega), if_neg (show ¬ nI n = (40 : Int32) from fun e => g ((nI_eq (b := 40) (by omega) (by omega)).mp e)), if_neg (by decide), thingsC ht tC, cl_s, packC τ (by omega) (by omega) (by omega) (by omega) (by omega), cl_s]
        have hv : valid P (rep P ds n) (1 + 16 * 0 + 256 * 0 + 4096 * 0 + 65536 * 0) := by
          unfold valid
          rw [pk_wy (by omega)]
          exact ⟨by omega, Or.inr (Or.inl ⟨rfl, by omega⟩)⟩
        obtain ⟨τ', e1, e2, e3, e4, e5⟩ := ho.adds (by omega) (by omega) hv
        have ep : perf P (rep P ds n) (1 + 16 * 0 + 256 * 0 + 4096 * 0 + 65536 * 0) = monthT P (rep P ds n) := by
          unfold perf
          rw [pk_wy (by omega), if_pos rfl]
        rw [ep] at e2 e5
        obtain ⟨ρ, f1, f2, f3⟩ := passM hP (notd_pl (n := n) hM) (Or.inl rfl) ht.w (show TwM ((notd σ n).1 10) (rep P ds n) by rw [notd_10]; exact tM)
        rw [e1, cl_s, thingsC (monthOk ht (by omega)) e2, cl_s, e4, cl_s]
        rw [show fX11_passes (notd σ n) 10 (nI 0) = _ from f1, cl_s, fades_eq]
        exact ⟨_, _, _, rfl, rfl, (e5 ρ f2 f3).rel⟩
theorem s_trade (τ σ : St) (h : Rel τ σ) (a1 a2 a3 a4 : Int32) : ∃ (τ' σ' : St) (r : Int32), fX10_trade τ a1 a2 a3 a4 = some (τ', r) ∧ fX11_trade σ a1 a2 a3 a4 = some (σ', r) ∧ Rel τ' σ' := by
  obtain ⟨P, ds, n, ho⟩ := h.ro
  obtain ⟨hP, hC, hM⟩ := ho.plan
  obtain ⟨ht, tC, tM⟩ := ho.twn
  obtain ⟨n40, n1, n2⟩ := ho.n40
  have h6 := hP.1
  have h8 := hP.2.1
  unfold fX10_trade fX11_trade
  rcases ix_cases a1 (pH P) (by omega) with ⟨x, hx, rfl⟩ | hbad
  case inr =>
    rw [isHouseC_n hC hbad, isHouseM_n hP hM hbad]
    exact ⟨_, _, _, rfl, rfl, h⟩
  rw [isHouseC_y hP hC hx, isHouseM_y hP hM hx]
  simp only [cl_s, o10, if_false]
  rcases ix_cases a2 (pC P) (by omega) with ⟨c, hc, rfl⟩ | hbad
  case inr =>
    rw [isColourC_n hC hbad, isColourM_n hP hM hbad]
    exact ⟨_, _, _, rfl, rfl, h⟩
  rw [isColourC_y hP hC hc, isColourM_y hP hM hc]
  simp only [cl_s, o10, if_false]
  rcases ix_cases a3 (pH P) (by omega) with ⟨y, hy, rfl⟩ | hbad
  case inr =>
    rw [isHouseC_n hC hbad, isHouseM_n hP hM hbad]
    exact ⟨_, _, _, rfl, rfl, h⟩
  rw [isHouseC_y hP hC hy, isHouseM_y hP hM hy]
  simp only [cl_s, o10, if_false]
  rcases ix_cases a4 (pC P) (by omega) with ⟨d, hd, rfl⟩ | hbad
  case inr =>
    rw [isColourC_n hC hbad, isColourM_n hP hM hbad]
    exact ⟨_, _, _, rfl, rfl, h⟩
  rw [isColourC_y hP hC hd, isColourM_y hP hM hd]
  simp only [cl_s, o10, if_false, n_eq (show x < 2 ^ 31 by omega) (show y < 2 ^ 31 by omega), n_eq (show c < 2 ^ 31 by omega) (show d < 2 ^ 31 by omega)]
  by_cases xy : x = y
  · rw [if_pos xy, if_pos xy]
    exact ⟨_, _, _, rfl, rfl, h⟩
  rw [if_neg xy, if_neg xy]
  by_cases cd : c = d
  · rw [if_pos cd, if_pos cd]
    exact ⟨_, _, _, rfl, rfl, h⟩
  rw [if_neg cd, if_neg cd]
  simp only [cl_s, ow0, hasC ht tC (show x < 6 by omega) (show c < 8 by omega), ownsM ht (show LM 10 = 55 from rfl) tM (show x < 6 by omega) (show c < 8 by omega), hasC ht tC (show x < 6 by omega) (show d < 8 by omega), ownsM ht (show LM 10 = 55 from rfl) tM (show x < 6 by omega) (show d < 8 by omega), hasC ht tC (show y < 6 by omega) (show c < 8 by omega), ownsM ht (show LM 10 = 55 from rfl) tM (show y < 6 by omega) (show c < 8 by omega), hasC ht tC (show y < 6 by omega) (show d < 8 by omega), ownsM ht (show LM 10 = 55 from rfl) tM (show y < 6 by omega) (show d < 8 by omega)]
  by_cases q1 : rep P ds n (7 + 8 * x + c) = 0
  · rw [if_pos q1, if_pos q1]
    exact ⟨_, _, _, rfl, rfl, h⟩
  rw [if_neg q1, if_neg q1]
  by_cases q2 : rep P ds n (7 + 8 * y + d) = 0
  · rw [if_pos q2, if_pos q2]
    exact ⟨_, _, _, rfl, rfl, h⟩
  rw [if_neg q2, if_neg q2]
  by_cases q3 : rep P ds n (7 + 8 * x + d) = 0
  case neg =>
    rw [if_neg q3, if_neg q3]
    exact ⟨_, _, _, rfl, rfl, h⟩
  rw [if_pos q3, if_pos q3]
  by_cases q4 : rep P ds n (7 + 8 * y + c) = 0
  case neg =>
    rw [if_neg q4, if_neg q4]
    exact ⟨_, _, _, rfl, rfl, h⟩
  rw [if_pos q4, if_pos q4, L_1, roomC n1 n40 (by omega), cl_s, n2]
  by_cases g : n = 40
  · rw [if_pos (show 40 < n + 1 by omega), if_pos rfl, if_pos (show nI n = 40 by rw [g]; rfl)]
    exact ⟨_, _, _, rfl, rfl, h⟩
  rw [if_neg (show ¬ 40 < n + 1 by omega), if_neg (show ¬ nI n = (40 : Int32) from fun e => g ((nI_eq (b := 40) (by omega) (by omega)).mp e)), if_neg (by decide), L_3, packC τ (by omega) (show x < 16 by omega) (show c < 16 by omega) (show y < 16 by omega) (show d < 16 by omega), cl_s]
  have hv : valid P (rep P ds n) (3 + 16 * x + 256 * c + 4096 * y + 65536 * d) := by
    unfold valid
    rw [pk_wy (by omega), pk_dh (by omega) (by omega), pk_dc (by omega) (by omega) (by omega), pk_dg (by omega) (by omega) (by omega) (by omega), pk_dd (by omega) (by omega) (by omega) (by omega) (by omega)]
    exact ⟨by omega, Or.inr (Or.inr (Or.inr (Or.inl ⟨rfl, hx, hy, hc, hd, xy, cd, q1, q2, q3, q4⟩)))⟩
  obtain ⟨τ', e1, e2, e3, e4, e5⟩ := ho.adds (by omega) (by omega) hv
  have ep : perf P (rep P ds n) (3 + 16 * x + 256 * c + 4096 * y + 65536 * d) = tradeT (rep P ds n) x c y d := by
    unfold perf
    rw [pk_wy (by omega), pk_dh (by omega) (by omega), pk_dc (by omega) (by omega) (by omega), pk_dg (by omega) (by omega) (by omega) (by omega), pk_dd (by omega) (by omega) (by omega) (by omega) (by omega), if_neg (by omega), if_neg (by omega), if_pos rfl]
  rw [ep] at e2 e5
  have tM' : TwM ((notd σ n).1 10) (rep P ds n) := by rw [notd_10]; exact tM
  have b0 : ∀ p r, p < 6 → r < 8 → 7 + 8 * p + r < LM 10 := fun p r a b => by show _ < 55; omega
  rw [e1, cl_s, endC e2 (by omega) (by omega), cl_s, e4, cl_s, L_8, L_7, L_0]
  simp only [pk_mul, nI_add]
  rw [rdM (b0 x c (by omega) (by omega)), wrM (b0 y c (by omega) (by omega)), rdM (b0 y d (by omega) (by omega)), wrM (b0 x d (by omega) (by omega)), wrM (b0 x c (by omega) (by omega)), wrM (b0 y d (by omega) (by omega)), rdM (b0 x d (by omega) (by omega)), su_11 (j := 7 + 8 * y + d), if_neg (by omega), tM' _ (show 7 + 8 * x + c < 55 by omega), tM' _ (show 7 + 8 * y + d < 55 by omega)]
  have f3 : TwM ((su (su (su (su (notd σ n) 10 (7 + 8 * y + c) (nI (rep P ds n (7 + 8 * x + c)))) 10 (7 + 8 * x + d) (nI (rep P ds n (7 + 8 * y + d)))) 10 (7 + 8 * x + c) (nI 0)) 10 (7 + 8 * y + d) (nI 0)).1 10) (tradeT (rep P ds n) x c y d) := by
    intro j hj
    rw [su_11, su_11, su_11, su_11]
    unfold tradeT
    by_cases a1 : j = 7 + 8 * y + d
    · rw [if_pos ⟨rfl, a1⟩, if_neg (by omega), if_neg (by omega), if_neg (by omega), if_pos a1]
    · rw [if_neg (fun w => a1 w.2)]
      by_cases a2 : j = 7 + 8 * x + c
      · rw [if_pos ⟨rfl, a2⟩, if_neg (by omega), if_neg (by omega), if_pos a2]
      · rw [if_neg (fun w => a2 w.2)]
        by_cases a3 : j = 7 + 8 * x + d
        · rw [if_pos ⟨rfl, a3⟩, if_neg (by omega), if_pos a3]
        · rw [if_neg (fun w => a3 w.2)]
          by_cases a4 : j = 7 + 8 * y + c
          · rw [if_pos ⟨rfl, a4⟩, if_pos a4]
          · rw [if_neg (fun w => a4 w.2), if_neg a4, if_neg a3, if_neg a2, if_neg a1, tM' j hj]
  rw [f3 (7 + 8 * x + d) (by omega)]
  exact ⟨_, _, _, rfl, rfl, (e5 _ (((eqB.w.trans eqB.w).trans eqB.w).trans eqB.w) f3).rel⟩
theorem s_lend (τ σ : St) (h : Rel τ σ) (a1 a2 a3 : Int32) : ∃ (τ' σ' : St) (r : Int32), fX10_lend τ a1 a2 a3 = some (τ', r) ∧ fX11_lend σ a1 a2 a3 = some (σ', r) ∧ Rel τ' σ' := by
  obtain ⟨P, ds, n, ho⟩ := h.ro
  obtain ⟨hP, hC, hM⟩ := ho.plan
  obtain ⟨ht, tC, tM⟩ := ho.twn
  obtain ⟨n40, n1, n2⟩ := ho.n40
  have h6 := hP.1
  have h8 := hP.2.1
  unfold fX10_lend fX11_lend
  rcases ix_cases a1 (pH P) (by omega) with ⟨x, hx, rfl⟩ | hbad
  case inr =>
    rw [isHouseC_n hC hbad, isHouseM_n hP hM hbad]
    exact ⟨_, _, _, rfl, rfl, h⟩
  rw [isHouseC_y hP hC hx, isHouseM_y hP hM hx]
  simp only [cl_s, o10, if_false]
  rcases ix_cases a2 (pH P) (by omega) with ⟨y, hy, rfl⟩ | hbad
  case inr =>
    rw [isHouseC_n hC hbad, isHouseM_n hP hM hbad]
    exact ⟨_, _, _, rfl, rfl, h⟩
  rw [isHouseC_y hP hC hy, isHouseM_y hP hM hy]
  simp only [cl_s, o10, if_false, n_eq (show x < 2 ^ 31 by omega) (show y < 2 ^ 31 by omega)]
  by_cases xy : x = y
  · rw [if_pos xy, if_pos xy]
    exact ⟨_, _, _, rfl, rfl, h⟩
  rw [if_neg xy, if_neg xy]
  by_cases hr : ((1 : Nat) : Int) ≤ a3.toInt ∧ a3.toInt ≤ (9 : Nat)
  case neg =>
    rw [show fX11_in σ a3.toInt64 1 9 = some (σ, nI 0) from in_out σ (a := 1) (n := 9) (by omega) (by omega) hr, cl_s, if_pos (show nI 0 = (0 : Int32) from rfl)]
    by_cases w : a3 < 1
    · rw [if_pos w]
      exact ⟨_, _, _, rfl, rfl, h⟩
    · rw [if_neg w, if_neg (fun q => hr (by rw [i_lt] at w; rw [i_le] at q; have e1 : (1 : Int32).toInt = 1 := rfl; have e9 : (9 : Int32).toInt = 9 := rfl; omega))]
      exact ⟨_, _, _, rfl, rfl, h⟩
  obtain ⟨m, m1, m9, rfl⟩ := between hr (by omega)
  have hux := ht.2.1 x hx
  have huy := ht.2.1 y hy
  rw [show fX11_in σ (nI m).toInt64 1 9 = _ from in_nI σ (a := 1) (n := 9) (by omega) (by omega) (by omega), cl_s, if_pos (show 1 ≤ m ∧ m ≤ 9 by omega), if_neg (show ¬ nI 1 = (0 : Int32) by decide), if_neg (show ¬ nI m < (1 : Int32) from nI_nlt (b := 1) m1 (by omega)), if_pos (show nI m ≤ (9 : Int32) from nI_le (b := 9) m9 (by omega)), rdC (show y < LC 33 by show y < 6; omega), tC.2.1 y hy, L_1, nI_add, nI_add, nI_add, rdM (show 1 + y < LM 10 by show _ < 55; omega), tM (1 + y) (by omega), nI_add]
  by_cases b1 : rep P ds n (1 + y) + m ≤ 99
  case neg =>
    rw [if_neg (show ¬ nI (rep P ds n (1 + y) + m) ≤ (99 : Int32) from nI_ge (b := rep P ds n (1 + y) + m) (a := 99) (by omega) (by omega)), if_neg (show ¬ nI (rep P ds n (1 + y) + m) ≤ (99 : Int32) from nI_ge (b := rep P ds n (1 + y) + m) (a := 99) (by omega) (by omega))]
    exact ⟨_, _, _, rfl, rfl, h⟩
  rw [if_pos (show nI (rep P ds n (1 + y) + m) ≤ (99 : Int32) from nI_le (b := 99) b1 (by omega)), if_pos (show nI (rep P ds n (1 + y) + m) ≤ (99 : Int32) from nI_le (b := 99) b1 (by omega)), rdC (show x < LC 33 by show x < 6; omega), tC.2.1 x hx, rdM (show 1 + x < LM 10 by show _ < 55; omega), tM (1 + x) (by omega)]
  by_cases b2 : m ≤ rep P ds n (1 + x)
  case neg =>
    rw [if_neg (nI_ge (by omega) (by omega)), if_neg (nI_ge (by omega) (by omega))]
    exact ⟨_, _, _, rfl, rfl, h⟩
  rw [if_pos (nI_le b2 (by omega)), if_pos (nI_le b2 (by omega)), roomC n1 n40 (by omega), cl_s, n2]
  by_cases g : n = 40
  · rw [if_pos (show 40 < n + 1 by omega), if_pos rfl, if_pos (show nI n = 40 by rw [g]; rfl)]
    exact ⟨_, _, _, rfl, rfl, h⟩
  rw [if_neg (show ¬ 40 < n + 1 by omega), if_neg (show ¬ nI n = (40 : Int32) from fun e => g ((nI_eq (b := 40) (by omega) (by omega)).mp e)), if_neg (by decide), L_4, L_0, packC τ (by omega) (show x < 16 by omega) (by omega) (show y < 16 by omega) (show m < 16 by omega), cl_s]
  have hv : valid P (rep P ds n) (4 + 16 * x + 256 * 0 + 4096 * y + 65536 * m) := by
    unfold valid
    rw [pk_wy (by omega), pk_dh (by omega) (by omega), pk_dg (by omega) (by omega) (by omega) (by omega), pk_dd (by omega) (by omega) (by omega) (by omega) (by omega)]
    exact ⟨by omega, Or.inr (Or.inr (Or.inr (Or.inr ⟨rfl, hx, hy, xy, m1, m9, b2, b1⟩)))⟩
  obtain ⟨τ', e1, e2, e3, e4, e5⟩ := ho.adds (by omega) (by omega) hv
  have ep : perf P (rep P ds n) (4 + 16 * x + 256 * 0 + 4096 * y + 65536 * m) = lendT (rep P ds n) x y m := by
    unfold perf
    rw [pk_wy (by omega), pk_dh (by omega) (by omega), pk_dg (by omega) (by omega) (by omega) (by omega), pk_dd (by omega) (by omega) (by omega) (by omega) (by omega), if_neg (by omega), if_neg (by omega), if_neg (by omega), if_pos rfl]
  rw [ep] at e2 e5
  have tM' : TwM ((notd σ n).1 10) (rep P ds n) := by rw [notd_10]; exact tM
  rw [e1, cl_s, rdC (show x < LC 33 by show x < 6; omega), e2.2.1 x hx, e4, cl_s, rdM (show 1 + x < LM 10 by show _ < 55; omega), tM' (1 + x) (by omega), pk_sub b2, wrM (show 1 + x < LM 10 by show _ < 55; omega), rdM (show 1 + y < LM 10 by show _ < 55; omega), su_11, if_neg (by omega), tM' (1 + y) (by omega), nI_add, wrM (show 1 + y < LM 10 by show _ < 55; omega), rdM (show 1 + x < LM 10 by show _ < 55; omega)]
  have f3 : TwM ((su (su (notd σ n) 10 (1 + x) (nI (rep P ds n (1 + x) - m))) 10 (1 + y) (nI (rep P ds n (1 + y) + m))).1 10) (lendT (rep P ds n) x y m) := by
    intro j hj
    rw [su_11, su_11]
    unfold lendT
    by_cases a1 : j = 1 + y
    · rw [if_pos ⟨rfl, a1⟩, if_neg (by omega), if_pos a1]
    · rw [if_neg (fun w => a1 w.2)]
      by_cases a2 : j = 1 + x
      · rw [if_pos ⟨rfl, a2⟩, if_pos a2]
      · rw [if_neg (fun w => a2 w.2), if_neg a2, if_neg a1, tM' j hj]
  rw [f3 (1 + x) (by omega)]
  exact ⟨_, _, _, rfl, rfl, (e5 _ (eqB.w.trans eqB.w) f3).rel⟩
