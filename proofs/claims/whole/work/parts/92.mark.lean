/-! steps: mark, kinds, monthly -/
theorem k5 {P : Nat → Prop} (h1 : P 1) (h2 : P 2) (h3 : P 3) (h4 : P 4) (h5 : P 5) {k : Nat} (a : 1 ≤ k) (b : k ≤ 5) : P k := by
  match k, a, b with
  | 1, _, _ => exact h1
  | 2, _, _ => exact h2
  | 3, _, _ => exact h3
  | 4, _, _ => exact h4
  | 5, _, _ => exact h5
def kOf (k j : Nat) : Int32 := if k = j ∨ (k = 4 ∧ j = 1) ∨ (k = 5 ∧ j = 2) then 1 else 0
theorem isOfC (σ : St) {k j : Nat} (hk : k < 6) (h1 : 1 ≤ j) (h5 : j ≤ 5) : fX2_isOf σ (nI k) (nI j) = some (σ, kOf k j) := by
  refine k6 (P := fun k => fX2_isOf σ (nI k) (nI j) = some (σ, kOf k j)) ?_ ?_ ?_ ?_ ?_ ?_ hk
  all_goals exact k5 (P := fun j => fX2_isOf σ (nI _) (nI j) = some (σ, kOf _ j)) rfl rfl rfl rfl rfl h1 h5
theorem isOfM (σ : St) {k j : Nat} (hk : k < 6) (h1 : 1 ≤ j) (h5 : j ≤ 5) : fX11_isOf σ (nI k) (nI j) = some (σ, kOf k j) := by
  refine k6 (P := fun k => fX11_isOf σ (nI k) (nI j) = some (σ, kOf k j)) ?_ ?_ ?_ ?_ ?_ ?_ hk
  all_goals exact k5 (P := fun j => fX11_isOf σ (nI _) (nI j) = some (σ, kOf _ j)) rfl rfl rfl rfl rfl h1 h5
def dr (P : Pl) : Nat → Nat
  | 0 => 0
  | n + 1 => if pr P (n + 1) ≤ pr P (dr P n) then dr P n else n + 1
theorem dr_le (P : Pl) : ∀ n, dr P n ≤ n
  | 0 => Nat.le_refl 0
  | n + 1 => by
    have := dr_le P n
    unfold dr
    split <;> omega
theorem dearC {τ : St} {P : Pl} (hP : PlanOk P) (hC : PlC τ P) (h1 : 1 ≤ pC P) : fX6_dearest τ = some (τ, nI (dr P (pC P - 1))) := by
  have h8 := hP.2.1
  unfold fX6_dearest
  rw [L_0, L_1]
  have L := jloop (fun n' σ a i k2 => fX6_dearest_L4 n' σ a i (fun σ a i => k2 σ a i)) (pC P) (fun i ρ b => ρ = τ ∧ 1 ≤ i ∧ b = nI (dr P (i - 1))) (fun σ8 v9 v10 => some (σ8, v9)) (fun n' ρ b hI => by
      obtain ⟨q1, q2, q3⟩ := hI
      show fX6_dearest_L4 (n' + 1) ρ b (nI (pC P)) (fun σ8 v9 v10 => some (σ8, v9)) = _
      rw [fX6_dearest_L4, q1, hC.2.1, if_pos (nI_le (by omega) (by omega))]) (fun n' ρ b i hi hI => by
      obtain ⟨q1, q2, q3⟩ := hI
      rw [q1, q3]
      obtain ⟨j, rfl⟩ : ∃ j, i = j + 1 := ⟨i - 1, by omega⟩
      have d1 := dr_le P j
      have p1 := (hP.2.2.2.2 (j + 1) hi).1
      have p2 := (hP.2.2.2.2 (dr P j) (by omega)).1
      refine ⟨τ, nI (dr P (j + 1)), ⟨rfl, by omega, rfl⟩, ?_⟩
      show fX6_dearest_L4 (n' + 1) τ (nI (dr P (j + 1 - 1))) (nI (j + 1)) (fun σ8 v9 v10 => some (σ8, v9)) = _
      rw [fX6_dearest_L4, hC.2.1, if_neg (nI_ge hi (by omega)), Nat.add_sub_cancel, rdC (show j + 1 < LC 29 by show _ < 8; omega), (hC.2.2.2 (j + 1) hi).1, rdC (show dr P j < LC 29 by show _ < 8; omega), (hC.2.2.2 (dr P j) (by omega)).1, pv_s, nI_1]
      by_cases z : pr P (j + 1) ≤ pr P (dr P j)
      · rw [if_pos (nI_le z (by omega)), show dr P (j + 1) = dr P j from if_pos z]
      · rw [if_neg (nI_ge (by omega) (by omega)), show dr P (j + 1) = j + 1 from if_neg z]) (pC P - 1) 1 10000 τ (nI 0) (by omega) (by omega) ⟨rfl, by omega, rfl⟩
  obtain ⟨ρ, b, ⟨q1, _, q2⟩, e⟩ := L
  rw [q1, q2] at e
  exact e
theorem dearM {σ : St} {P : Pl} (hP : PlanOk P) (hM : PlM σ P) (h1 : 1 ≤ pC P) : fX11_dearest σ = some (σ, nI (pr P (dr P (pC P - 1)))) := by
  have h8 := hP.2.1
  unfold fX11_dearest
  rw [L_0, L_1]
  have L := jloop (fun n' σ a i k2 => fX11_dearest_L4 n' σ a i (fun σ a i => k2 σ a i)) (pC P) (fun i ρ b => ρ = σ ∧ 1 ≤ i ∧ b = nI (dr P (i - 1))) (fun σ8 v9 v10 => rd LM σ8 8 v9 (fun x11 => some (σ8, x11))) (fun n' ρ b hI => by
      obtain ⟨q1, q2, q3⟩ := hI
      show fX11_dearest_L4 (n' + 1) ρ b (nI (pC P)) (fun σ8 v9 v10 => rd LM σ8 8 v9 (fun x11 => some (σ8, x11))) = _
      rw [fX11_dearest_L4, q1, hM.2.1, if_pos (nI_le (by omega) (by omega))]) (fun n' ρ b i hi hI => by
      obtain ⟨q1, q2, q3⟩ := hI
      rw [q1, q3]
      obtain ⟨j, rfl⟩ : ∃ j, i = j + 1 := ⟨i - 1, by omega⟩
      have d1 := dr_le P j
      have p1 := (hP.2.2.2.2 (j + 1) hi).1
      have p2 := (hP.2.2.2.2 (dr P j) (by omega)).1
      refine ⟨σ, nI (dr P (j + 1)), ⟨rfl, by omega, rfl⟩, ?_⟩
      show fX11_dearest_L4 (n' + 1) σ (nI (dr P (j + 1 - 1))) (nI (j + 1)) (fun σ8 v9 v10 => rd LM σ8 8 v9 (fun x11 => some (σ8, x11))) = _
      rw [fX11_dearest_L4, hM.2.1, if_neg (nI_ge hi (by omega)), Nat.add_sub_cancel, rdM (show j + 1 < LM 8 by show _ < 8; omega), (hM.2.2.2 (j + 1) hi).1, rdM (show dr P j < LM 8 by show _ < 8; omega), (hM.2.2.2 (dr P j) (by omega)).1, pv_s, nI_1]
      by_cases z : pr P (j + 1) ≤ pr P (dr P j)
      · rw [if_pos (nI_le z (by omega)), show dr P (j + 1) = dr P j from if_pos z]
      · rw [if_neg (nI_ge (by omega) (by omega)), show dr P (j + 1) = j + 1 from if_neg z]) (pC P - 1) 1 10000 σ (nI 0) (by omega) (by omega) ⟨rfl, by omega, rfl⟩
  obtain ⟨ρ, b, ⟨q1, _, q2⟩, e⟩ := L
  have d1 := dr_le P (pC P - 1)
  rw [q1, q2] at e
  refine Eq.trans e ?_
  show rd LM σ 8 (nI (dr P (pC P - 1))) (fun x11 => some (σ, x11)) = _
  rw [rdM (show dr P (pC P - 1) < LM 8 by show _ < 8; omega), (hM.2.2.2 (dr P (pC P - 1)) (by omega)).1]
theorem purseAsC {τ : St} {P : Pl} {t : Tw} (hP : PlanOk P) (hC : PlC τ P) (ht : TwOk P t) (tC : TwC τ P t) {h k : Nat} (hh : h < pH P) (hk : k < 6) : fX9_purseAs τ (nI h) (nI k) = some (τ, nI (nxt k (ic P h) (t (1 + h)))) := by
  have h6 := hP.1
  unfold fX9_purseAs
  rw [rdC (show h < LC 32 by show h < 6; omega), (hC.2.2.1 h hh).2, rdC (show h < LC 33 by show h < 6; omega), tC.2.1 h hh, nxtC τ hk (hP.2.2.2.1 h hh).2 (ht.2.1 h hh), cl_s]
theorem nxt0 {i u : Nat} (hi : i ≤ 9) : nxt 0 i u = i := by
  unfold nxt
  rw [if_neg (by omega), if_neg (by omega), if_neg (by omega), Nat.min_eq_right (by omega)]
theorem s_mark (τ σ : St) (h : Rel τ σ) (a1 a2 : Int32) : ∃ (τ' σ' : St) (r : Int32), fX10_mark τ a1 a2 = some (τ', r) ∧ fX11_mark σ a1 a2 = some (σ', r) ∧ Rel τ' σ' := by
  obtain ⟨P, t, hP, hC, hM, ht, tC, tM⟩ := h.view
  have h6 := hP.1
  have h8 := hP.2.1
  unfold fX10_mark fX11_mark
  rcases ix_cases a1 (pH P) (by omega) with ⟨x, hx, rfl⟩ | hbad
  case inr =>
    rw [isHouseC_n hC hbad, isHouseM_n hP hM hbad]
    exact ⟨_, _, _, rfl, rfl, h⟩
  rw [isHouseC_y hP hC hx, isHouseM_y hP hM hx]
  simp only [cl_s, o10, if_false]
  by_cases hr : ((1 : Nat) : Int) ≤ a2.toInt ∧ a2.toInt ≤ (5 : Nat)
  case neg =>
    rw [show fX11_in σ a2.toInt64 1 5 = some (σ, nI 0) from in_out σ (a := 1) (n := 5) (by omega) (by omega) hr, cl_s, if_pos (show nI 0 = (0 : Int32) from rfl)]
    by_cases w : a2 ≤ 0
    · rw [if_pos w]
      exact ⟨_, _, _, rfl, rfl, h⟩
    · rw [if_neg w, if_neg (fun q => hr (by rw [i_le] at w; rw [i_lt] at q; have e1 : (0 : Int32).toInt = 0 := rfl; have e9 : (6 : Int32).toInt = 6 := rfl; omega))]
      exact ⟨_, _, _, rfl, rfl, h⟩
  obtain ⟨j, j1, j5, rfl⟩ := between hr (by omega)
  have hk := (hP.2.2.2.1 x hx).1
  have hi := (hP.2.2.2.1 x hx).2
  have hu := ht.2.1 x hx
  have c1 : 1 ≤ pC P := by
    rcases hP.2.2.1 with q | q <;> omega
  rw [show fX11_in σ (nI j).toInt64 1 5 = some (σ, if 1 ≤ j ∧ j ≤ 5 then nI 1 else nI 0) from in_nI σ (a := 1) (n := 5) (by omega) (by omega) (by omega), cl_s, if_pos (show 1 ≤ j ∧ j ≤ 5 from ⟨j1, j5⟩), if_neg (show ¬ nI 1 = (0 : Int32) by decide), if_neg (nI_nle (by omega) (by omega)), if_pos (show nI j < (6 : Int32) from nI_lt (b := 6) (by omega) (by omega)), rdC (show x < LC 31 by show x < 6; omega), (hC.2.2.1 x hx).1, isOfC τ hk j1 j5, cl_s, rdM (show x < LM 5 by show x < 6; omega), (hM.2.2.1 x hx).1, isOfM σ hk j1 j5, cl_s]
  by_cases o : kOf (kd P x) j = 0
  · rw [if_pos o, if_pos o, show fX10_refuse τ 3 = _ from refu_ev τ (w := 3) (by omega), show fX11_found σ 3 = _ from fnd_ev σ (w := 3) (by omega)]
    exact ⟨_, _, _, rfl, rfl, h.found (by omega)⟩
  have hd : dr P (pC P - 1) < pC P := by
    have := dr_le P (pC P - 1)
    omega
  have hp := (hP.2.2.2.2 _ hd).1
  have ok : kd P x = j ∨ (kd P x = 4 ∧ j = 1) ∨ (kd P x = 5 ∧ j = 2) := by
    unfold kOf at o
    by_cases q : kd P x = j ∨ (kd P x = 4 ∧ j = 1) ∨ (kd P x = 5 ∧ j = 2)
    · exact q
    · rw [if_neg q] at o
      exact absurd rfl o
  rw [if_neg o, if_neg o, dearC hP hC c1, cl_s, rdC (show dr P (pC P - 1) < LC 29 by show _ < 8; omega), (hC.2.2.2 _ hd).1, rdM (show x < LM 5 by show x < 6; omega), (hM.2.2.1 x hx).1, n_1p, rdM (show 1 + x < LM 10 by show _ < 55; omega), tM (1 + x) (by omega), rdM (show x < LM 6 by show x < 6; omega), (hM.2.2.1 x hx).2, nxtM σ hk hi hu, cl_s, dearM hP hM c1, cl_s]
  have hj : j = 1 ∨ j = 2 ∨ j = 3 ∨ j = 4 ∨ j = 5 := by omega
  generalize dr P (pC P - 1) = d at hp hd
  rcases hj with rfl | rfl | rfl | rfl | rfl
  · rw [if_pos (show nI 1 = (1 : Int32) from rfl), if_pos (show nI 1 = (1 : Int32) from rfl), purseAsC hP hC ht tC hx hk, cl_s, show fX9_purseAs τ (nI x) 0 = _ from purseAsC (k := 0) hP hC ht tC hx (by omega), cl_s, nxt0 hi, rdM (show x < LM 6 by show x < 6; omega), (hM.2.2.1 x hx).2]
    exact ⟨_, _, _, rfl, rfl, h⟩
  · rw [if_neg (show ¬ nI 2 = (1 : Int32) by decide), if_neg (show ¬ nI 2 = (1 : Int32) by decide), if_pos (show nI 2 = (2 : Int32) from rfl), if_pos (show nI 2 = (2 : Int32) from rfl), payC τ hk hp.1 hp.2, cl_s, show fX2_pays τ 0 (nI (pr P d)) = _ from payC (k := 0) τ (by omega) hp.1 hp.2, cl_s, rdM (show x < LM 5 by show x < 6; omega), (hM.2.2.1 x hx).1, payM σ hk hp.1 hp.2, cl_s]
    exact ⟨_, _, _, rfl, rfl, h⟩
  · rw [if_neg (show ¬ nI 3 = (1 : Int32) by decide), if_neg (show ¬ nI 3 = (1 : Int32) by decide), if_neg (show ¬ nI 3 = (2 : Int32) by decide), if_neg (show ¬ nI 3 = (2 : Int32) by decide), if_pos (show nI 3 = (3 : Int32) from rfl), if_pos (show nI 3 = (3 : Int32) from rfl), show fX2_pays τ 0 (nI (pr P d)) = _ from payC (k := 0) τ (by omega) hp.1 hp.2, cl_s, payC τ hk hp.1 hp.2, cl_s, show fX11_paysBy σ 3 (nI (pr P d)) = _ from payM (k := 3) σ (by omega) hp.1 hp.2, cl_s, show kd P x = 3 by omega]
    exact ⟨_, _, _, rfl, rfl, h⟩
  · rw [if_neg (show ¬ nI 4 = (1 : Int32) by decide), if_neg (show ¬ nI 4 = (1 : Int32) by decide), if_neg (show ¬ nI 4 = (2 : Int32) by decide), if_neg (show ¬ nI 4 = (2 : Int32) by decide), if_neg (show ¬ nI 4 = (3 : Int32) by decide), if_neg (show ¬ nI 4 = (3 : Int32) by decide), if_pos (show nI 4 = (4 : Int32) from rfl), if_pos (show nI 4 = (4 : Int32) from rfl), purseAsC hP hC ht tC hx hk, cl_s, show fX9_purseAs τ (nI x) 1 = _ from purseAsC (k := 1) hP hC ht tC hx (by omega), cl_s, rdM (show 1 + x < LM 10 by show _ < 55; omega), tM (1 + x) (by omega), rdM (show x < LM 6 by show x < 6; omega), (hM.2.2.1 x hx).2, show fX11_nextPurse σ 1 (nI (t (1 + x))) (nI (ic P x)) = _ from nxtM (k := 1) σ (by omega) hi hu, cl_s]
    exact ⟨_, _, _, rfl, rfl, h⟩
  · rw [if_neg (show ¬ nI 5 = (1 : Int32) by decide), if_neg (show ¬ nI 5 = (1 : Int32) by decide), if_neg (show ¬ nI 5 = (2 : Int32) by decide), if_neg (show ¬ nI 5 = (2 : Int32) by decide), if_neg (show ¬ nI 5 = (3 : Int32) by decide), if_neg (show ¬ nI 5 = (3 : Int32) by decide), if_neg (show ¬ nI 5 = (4 : Int32) by decide), if_neg (show ¬ nI 5 = (4 : Int32) by decide), show fX2_pays τ 2 (nI (pr P d)) = _ from payC (k := 2) τ (by omega) hp.1 hp.2, cl_s, payC τ hk hp.1 hp.2, cl_s, show fX11_paysBy σ 2 (nI (pr P d)) = _ from payM (k := 2) σ (by omega) hp.1 hp.2, cl_s, show fX11_paysBy σ 5 (nI (pr P d)) = _ from payM (k := 5) σ (by omega) hp.1 hp.2, cl_s, show kd P x = 5 by omega]
    exact ⟨_, _, _, rfl, rfl, h⟩
/-- a row of numbers, held against its bounds -/
theorem lackL {τ σ : St} (h : Rel τ σ) {r n v : Nat} (hr : r < 6) (hn : n ≤ 40) (hv : v < 1000) (en : σ.1 1 r = nI n) (ec : ∀ i, i < 40 → τ.1 (4 + r) i = σ.1 2 (40 * r + i)) : ∀ (m i f g : Nat), i + m = n → m < f → m < g → (∀ j, j < i → ∃ w, w ≤ v ∧ σ.1 2 (40 * r + j) = nI w) → (∃ τ' σ', fX10_refuseCells_L48 (nI r) (nI v) (nI n) f τ (nI i) (fun σ15 v16 => some (σ15, 0)) = some (τ', -3) ∧ fX11_lacks_L40 (nI r) (nI v) g σ (nI i) (fun σ13 v14 => some (σ13, 0)) = some (σ', -3) ∧ Rel τ' σ') ∨ (fX10_refuseCells_L48 (nI r) (nI v) (nI n) f τ (nI i) (fun σ15 v16 => some (σ15, 0)) = some (τ, 0) ∧ fX11_lacks_L40 (nI r) (nI v) g σ (nI i) (fun σ13 v14 => some (σ13, 0)) = some (σ, 0) ∧ ∀ j, j < n → ∃ w, w ≤ v ∧ σ.1 2 (40 * r + j) = nI w) := by
  intro m
  induction m with
  | zero =>
    intro i f g hi hf hg hj
    match f, g, hf, hg with
    | f + 1, g + 1, _, _ =>
      rw [fX10_refuseCells_L48, fX11_lacks_L40, rdM (show r < LM 1 from hr), en, if_pos (nI_le (by omega) (by omega)), if_pos (nI_le (by omega) (by omega))]
      exact Or.inr ⟨rfl, rfl, fun j q => hj j (by omega)⟩
  | succ m ih =>
    intro i f g hi hf hg hj
    match f, g, hf, hg with
    | f + 1, g + 1, hf, hg =>
      rw [fX10_refuseCells_L48, fX11_lacks_L40, rdM (show r < LM 1 from hr), en, if_neg (nI_ge (by omega) (by omega)), if_neg (nI_ge (by omega) (by omega)), get1_ev τ hr (by omega), cl_s, jn_s, ec i (by omega), L_40, pk_mul, nI_add, rdM (show 40 * r + i < LM 2 by show _ < 240; omega)]
      by_cases hx : ((0 : Nat) : Int) ≤ (σ.1 2 (40 * r + i)).toInt ∧ (σ.1 2 (40 * r + i)).toInt ≤ (v : Nat)
      · obtain ⟨w, _, wv, e⟩ := between hx (by omega)
        rw [e, show fX11_in σ (nI w).toInt64 0 (nI v).toInt64 = some (σ, 1) from in_yes σ wv (by omega), cl_s, if_neg (show ¬ (1 : Int32) = 0 by decide), if_neg (nlt0 (by omega)), if_pos (nI_le wv (by omega)), nI_1]
        refine ih (i + 1) f g (by omega) (by omega) (by omega) (fun j q => ?_)
        by_cases z : j = i
        · exact ⟨w, wv, by rw [z, e]⟩
        · exact hj j (by omega)
      · refine Or.inl ⟨refu τ 3, fnd σ 3, ?_, ?_, h.found (by omega)⟩
        · have k : cl (fX10_refuse τ 3) (fun σ13 r14 => some (σ13, r14)) = some (refu τ 3, (-3 : Int32)) := by
            rw [show fX10_refuse τ 3 = _ from refu_ev τ (w := 3) (by omega), cl_s]
          by_cases w : σ.1 2 (40 * r + i) < 0
          · rw [if_pos w, k]
          · rw [if_neg w, if_neg (fun q => hx (by rw [i_lt] at w; rw [i_le, nI_toInt (by omega)] at q; have e1 : (0 : Int32).toInt = 0 := rfl; omega)), k]
        · rw [show fX11_in σ (σ.1 2 (40 * r + i)).toInt64 0 (nI v).toInt64 = some (σ, nI 0) from in_out σ (a := 0) (n := v) (by omega) (by omega) hx, cl_s, if_pos (show nI 0 = (0 : Int32) from rfl), show fX11_found σ 3 = _ from fnd_ev σ (w := 3) (by omega), cl_s]
theorem lacksR {τ σ : St} (h : Rel τ σ) {r m v : Nat} (hr : r < 6) (hm : m ≤ 40) (hv : v < 1000) : (∃ τ' σ', fX10_refuseCells τ (nI r) (nI m) (nI v) = some (τ', -3) ∧ fX11_lacks σ (nI r) (nI m) (nI v) = some (σ', -3) ∧ Rel τ' σ') ∨ (fX10_refuseCells τ (nI r) (nI m) (nI v) = some (τ, 0) ∧ fX11_lacks σ (nI r) (nI m) (nI v) = some (σ, 0) ∧ ∃ (n : Nat) (w : Nat → Nat), 1 ≤ n ∧ n ≤ m ∧ τ.1 3 r = nI n ∧ σ.1 1 r = nI n ∧ ∀ i, i < n → w i ≤ v ∧ τ.1 (4 + r) i = nI (w i) ∧ σ.1 2 (40 * r + i) = nI (w i)) := by
  obtain ⟨e1, e2, e3⟩ := h.2.1 r hr
  unfold fX10_refuseCells fX11_lacks
  rcases e2 with e2 | ⟨n, n40, e2⟩
  · rw [miss1_y τ hr (e1.trans e2), cl_s, if_neg (show ¬ (1 : Int32) = 0 by decide), rdM (show r < LM 1 from hr), e2, if_neg (show ¬ (0 : Int32) ≤ -1 by decide), show fX10_refuse τ 1 = _ from refu_ev τ (w := 1) (by omega), show fX11_found σ 1 = _ from fnd_ev σ (w := 1) (by omega)]
    exact Or.inl ⟨_, _, rfl, rfl, h.found (by omega)⟩
  · have hs : fX7_sizeOf_1 τ (nI r) = some (τ, nI n) := by
      unfold fX7_sizeOf_1
      rw [rdC (show r < LC 3 from hr), e1, e2]
    rw [miss1_n τ hr (by omega) (e1.trans e2), cl_s, if_pos rfl, hs, cl_s, jn_s, rdM (show r < LM 1 from hr), e2, if_pos (nle0 (by omega)), rdM (show r < LM 1 from hr), e2, show fX11_in σ (nI n).toInt64 1 (nI m).toInt64 = some (σ, if 1 ≤ n ∧ n ≤ m then nI 1 else nI 0) from in_nI σ (a := 1) (by omega) (by omega) (by omega), cl_s]
    by_cases q : 1 ≤ n ∧ n ≤ m
    · rw [if_neg (show ¬ nI n < (1 : Int32) from nI_nlt (b := 1) q.1 (by omega)), if_pos (nI_le q.2 (by omega)), if_pos q, if_neg (show ¬ nI 1 = (0 : Int32) by decide), L_0]
      rcases lackL h hr n40 hv e2 e3 n 0 10000 10000 (by omega) (by omega) (by omega) (fun j z => absurd z (by omega)) with l | ⟨l1, l2, l3⟩
      · exact Or.inl l
      · refine Or.inr ⟨l1, l2, n, fun i => (σ.1 2 (40 * r + i)).toNatClampNeg, q.1, q.2, e1.trans e2, (by first | exact e2 | rfl), fun i hi => ?_⟩
        obtain ⟨w, w1, w2⟩ := l3 i hi
        have ew : (σ.1 2 (40 * r + i)).toNatClampNeg = w := by rw [w2, nI_clamp (by omega)]
        show (σ.1 2 (40 * r + i)).toNatClampNeg ≤ v ∧ τ.1 (4 + r) i = nI (σ.1 2 (40 * r + i)).toNatClampNeg ∧ σ.1 2 (40 * r + i) = nI (σ.1 2 (40 * r + i)).toNatClampNeg
        rw [ew, e3 i (by omega), w2]
        exact ⟨w1, rfl, rfl⟩
    · refine Or.inl ⟨refu τ 5, fnd σ 5, ?_, ?_, h.found (by omega)⟩
      · have k : cl (fX10_refuse τ 5) (fun σ6 r7 => some (σ6, r7)) = some (refu τ 5, (-3 : Int32)) := by
          rw [show fX10_refuse τ 5 = _ from refu_ev τ (w := 5) (by omega), cl_s]
        by_cases w : n < 1
        · rw [if_pos (show nI n < (1 : Int32) from nI_lt (b := 1) w (by omega)), k]
        · rw [if_neg (show ¬ nI n < (1 : Int32) from nI_nlt (b := 1) (by omega) (by omega)), if_neg (nI_ge (by omega) (by omega)), k]
      · rw [if_neg q, if_pos (show nI 0 = (0 : Int32) from rfl), show fX11_found σ 5 = _ from fnd_ev σ (w := 5) (by omega), cl_s]
/-- what fits -/
def ftB (k i : Nat) (w : Nat → Nat) : Nat → Nat → Nat → Bool
  | _, 0, _ => true
  | s, m + 1, u => if nxt k i u = w s then ftB k i w (s + 1) m (nxt k i u) else false
theorem fitsC {τ : St} {k i r n : Nat} {w : Nat → Nat} (hk : k < 6) (hi : i ≤ 9) (hr : r < 6) (hn : n ≤ 40) (hw : ∀ j, j < n → w j ≤ 99 ∧ τ.1 (4 + r) j = nI (w j)) : ∀ (m s f u : Nat), s + m = n → m < f → u ≤ 99 → fX1_fits_L6 (nI k) (nI i) (4 + r) (nI n) f τ (nI u) (nI s) (fun σ7 v8 v9 => some (σ7, 1)) = some (τ, if ftB k i w s m u then 1 else 0) := by
  intro m
  induction m with
  | zero =>
    intro s f u hs hf hu
    match f, hf with
    | f + 1, _ =>
      rw [fX1_fits_L6, if_pos (nI_le (by omega) (by omega))]
      rfl
  | succ m ih =>
    intro s f u hs hf hu
    match f, hf with
    | f + 1, hf =>
      have nl := nxt_le k i u
      have ws := hw s (by omega)
      rw [fX1_fits_L6, if_neg (nI_ge (by omega) (by omega)), nxtC τ hk hi hu, cl_s, rdC (show s < LC (4 + r) by rw [LC_row hr]; omega), ws.2]
      by_cases z : nxt k i u = w s
      · rw [if_pos (by rw [z]), nI_1, ih (s + 1) f _ (by omega) (by omega) nl]
        rw [show ftB k i w s (m + 1) u = ftB k i w (s + 1) m (nxt k i u) from if_pos z]
      · rw [if_neg (fun q => z ((nI_eq (by omega) (by omega)).mp q)), show ftB k i w s (m + 1) u = false from if_neg z]
        rfl
theorem fitsM {σ : St} {k i r n : Nat} {w : Nat → Nat} (hk : k < 6) (hi : i ≤ 9) (hr : r < 6) (hn : n ≤ 40) (en : σ.1 1 r = nI n) (hw : ∀ j, j < n → w j ≤ 99 ∧ σ.1 2 (40 * r + j) = nI (w j)) : ∀ (m s f u : Nat), s + m = n → m < f → u ≤ 99 → fX11_fits_L16 (nI r) (nI k) (nI i) f σ (nI u) 1 (nI s) (fun σ12 v13 v14 v15 => gd (isB v14) (some (σ12, v14))) = some (σ, if ftB k i w s m u then 1 else 0) := by
  intro m
  induction m with
  | zero =>
    intro s f u hs hf hu
    match f, hf with
    | f + 1, _ =>
      rw [fX11_fits_L16, rdM (show r < LM 1 from hr), en, if_pos (nI_le (by omega) (by omega))]
      rfl
  | succ m ih =>
    intro s f u hs hf hu
    match f, hf with
    | f + 1, hf =>
      have nl := nxt_le k i u
      have ws := hw s (by omega)
      rw [fX11_fits_L16, rdM (show r < LM 1 from hr), en, if_neg (nI_ge (by omega) (by omega)), if_neg (show ¬ (1 : Int32) = 0 by decide), nxtM σ hk hi hu, cl_s, L_40, pk_mul, nI_add, rdM (show 40 * r + s < LM 2 by show _ < 240; omega), ws.2, pv_s]
      by_cases z : nxt k i u = w s
      · rw [if_pos (by rw [z]), nI_1, ih (s + 1) f _ (by omega) (by omega) nl]
        rw [show ftB k i w s (m + 1) u = ftB k i w (s + 1) m (nxt k i u) from if_pos z]
      · rw [if_neg (fun q => z ((nI_eq (by omega) (by omega)).mp q)), show ftB k i w s (m + 1) u = false from if_neg z, nI_1]
        match f, hf with
        | f + 1, _ =>
          rw [fX11_fits_L16, rdM (show r < LM 1 from hr), en]
          by_cases q : n ≤ s + 1
          · rw [if_pos (nI_le q (by omega))]
            rfl
          · rw [if_neg (nI_ge (by omega) (by omega)), if_pos rfl]
            rfl
def fKs (g : Nat → Bool) (a : Int32) (i : Nat) : Int32 := if g i then a ||| (1 <<< (nI i &&& 31)) else a
theorem kindsByC {τ : St} {P : Pl} {t : Tw} (hP : PlanOk P) (hC : PlC τ P) (ht : TwOk P t) (tC : TwC τ P t) {h r n : Nat} {w : Nat → Nat} (hh : h < pH P) (hr : r < 6) (hn : n ≤ 40) (hw : ∀ j, j < n → w j ≤ 99 ∧ τ.1 (4 + r) j = nI (w j)) : fX1_kindsBy τ (nI h) (4 + r) (nI n) = some (τ, fo (fKs (fun k => ftB k (ic P h) w 0 n (t (1 + h)))) 0 6 0) := by
  have h6 := hP.1
  unfold fX1_kindsBy
  rw [show (0 : Int32) = nI 0 from rfl, aloop (fun n' σ a i k => fX1_kindsBy_L6 (nI h) (4 + r) (nI n) n' σ a i (fun σ a i => k σ a i)) 6 τ (fKs (fun k => ftB k (ic P h) w 0 n (t (1 + h)))) (fun n' a i k hi => ?_) 6 0 10000 (nI 0) _ (by omega) (by omega)]
  rw [fX1_kindsBy_L6, L_6]
  by_cases q : 6 ≤ i
  · rw [if_pos q, if_pos (nI_le q (by omega))]
  · have F := fitsC (k := i) (i := ic P h) (u := t (1 + h)) (by omega) (hP.2.2.2.1 h hh).2 hr hn hw n 0 10000 (by omega) (by omega) (ht.2.1 h hh)
    have F2 : fX1_fits τ (nI i) (nI (ic P h)) (nI (t (1 + h))) (4 + r) (nI n) = some (τ, if ftB i (ic P h) w 0 n (t (1 + h)) then 1 else 0) := F
    rw [if_neg q, if_neg (nI_ge (by omega) (by omega)), rdC (show h < LC 32 by show h < 6; omega), (hC.2.2.1 h hh).2, rdC (show h < LC 33 by show h < 6; omega), tC.2.1 h hh, F2, cl_s, pv_s, nI_1]
    simp only [fKs]
    by_cases z : ftB i (ic P h) w 0 n (t (1 + h)) = true
    · rw [if_pos z, if_pos z, if_neg (show ¬ (1 : Int32) = 0 by decide)]
    · rw [if_neg z, if_neg z, if_pos rfl]
theorem fitsM2 {σ : St} {P : Pl} {t : Tw} (hP : PlanOk P) (ht : TwOk P t) (tM : TwM (σ.1 10) t) {h r n : Nat} {w : Nat → Nat} (hh : h < pH P) (hr : r < 6) (hn : n ≤ 40) (en : σ.1 1 r = nI n) (hw : ∀ j, j < n → w j ≤ 99 ∧ σ.1 2 (40 * r + j) = nI (w j)) {k i : Nat} (hk : k < 6) (hi : i ≤ 9) : fX11_fits σ (nI h) (nI r) (nI k) (nI i) = some (σ, if ftB k i w 0 n (t (1 + h)) then 1 else 0) := by
  have h6 := hP.1
  unfold fX11_fits
  rw [n_1p, rdM (show 1 + h < LM 10 by show _ < 55; omega), tM (1 + h) (by omega)]
  exact fitsM hk hi hr hn en hw n 0 10000 (t (1 + h)) (by omega) (by omega) (ht.2.1 h hh)
theorem kindsByM {σ : St} {P : Pl} {t : Tw} (hP : PlanOk P) (hM : PlM σ P) (ht : TwOk P t) (tM : TwM (σ.1 10) t) {h r n : Nat} {w : Nat → Nat} (hh : h < pH P) (hr : r < 6) (hn : n ≤ 40) (en : σ.1 1 r = nI n) (hw : ∀ j, j < n → w j ≤ 99 ∧ σ.1 2 (40 * r + j) = nI (w j)) : fX11_kindsBy σ (nI h) (nI r) = some (σ, fo (fKs (fun k => ftB k (ic P h) w 0 n (t (1 + h)))) 0 6 0) := by
  have h6 := hP.1
  unfold fX11_kindsBy
  rw [show (0 : Int32) = nI 0 from rfl, aloop (fun n' σ a i k => fX11_kindsBy_L5 (nI h) (nI r) n' σ a i (fun σ a i => k σ a i)) 6 σ (fKs (fun k => ftB k (ic P h) w 0 n (t (1 + h)))) (fun n' a i k hi => ?_) 6 0 10000 (nI 0) _ (by omega) (by omega)]
  rw [fX11_kindsBy_L5, L_6]
  by_cases q : 6 ≤ i
  · rw [if_pos q, if_pos (nI_le q (by omega))]
  · rw [if_neg q, if_neg (nI_ge (by omega) (by omega)), rdM (show h < LM 6 by show h < 6; omega), (hM.2.2.1 h hh).2, fitsM2 hP ht tM hh hr hn en hw (show i < 6 by omega) (hP.2.2.2.1 h hh).2, cl_s, pv_s, nI_1]
    simp only [fKs]
    by_cases z : ftB i (ic P h) w 0 n (t (1 + h)) = true
    · rw [if_pos z, if_pos z, if_neg (show ¬ (1 : Int32) = 0 by decide)]
    · rw [if_neg z, if_neg z, if_pos rfl, Int32.or_zero]
theorem cellsOf1 (τ : St) {r : Nat} (hr : r < 6) : fX7_cellsOf_1 τ (nI r) = some (τ, 4 + r) := by
  unfold fX7_cellsOf_1
  rw [gd_inb hr (by omega), nI_clamp (by omega)]
theorem sizeOf1 (τ : St) {r : Nat} {x : Int32} (hr : r < 6) (e : τ.1 3 r = x) : fX7_sizeOf_1 τ (nI r) = some (τ, x) := by
  unfold fX7_sizeOf_1
  rw [rdC (show r < LC 3 from hr), e]
theorem s_kinds (τ σ : St) (h : Rel τ σ) (a1 a2 : Int32) : ∃ (τ' σ' : St) (r : Int32), fX10_kinds τ a1 a2 = some (τ', r) ∧ fX11_kinds σ a1 a2 = some (σ', r) ∧ Rel τ' σ' := by
  obtain ⟨P, t, hP, hC, hM, ht, tC, tM⟩ := h.view
  have h6 := hP.1
  unfold fX10_kinds fX11_kinds
  rcases ix_cases a1 (pH P) (by omega) with ⟨x, hx, rfl⟩ | hbad
  case inr =>
    rw [isHouseC_n hC hbad, isHouseM_n hP hM hbad]
    exact ⟨_, _, _, rfl, rfl, h⟩
  rw [isHouseC_y hP hC hx, isHouseM_y hP hM hx]
  simp only [cl_s, o10, if_false]
  rcases ix_cases a2 6 (by omega) with ⟨r, hr, rfl⟩ | hbad
  case inr =>
    rw [isOne1_no τ hbad, isRow_no σ hbad]
    exact ⟨_, _, _, rfl, rfl, h⟩
  rw [isOne1_yes τ hr, isRow_yes σ hr]
  simp only [cl_s, o10, if_false]
  rcases lacksR h (m := 20) (v := 99) hr (by omega) (by omega) with ⟨τ', σ', l1, l2, l3⟩ | ⟨l1, l2, n, w, n1, n20, c1, m1, hw⟩
  · rw [show fX10_refuseCells τ (nI r) 20 99 = _ from l1, show fX11_lacks σ (nI r) 20 99 = _ from l2, cl_s, cl_s, if_neg (show ¬ (-3 : Int32) = 0 by decide), if_neg (show ¬ (0 : Int32) ≤ -3 by decide)]
    exact ⟨_, _, _, rfl, rfl, l3⟩
  · rw [show fX10_refuseCells τ (nI r) 20 99 = _ from l1, show fX11_lacks σ (nI r) 20 99 = _ from l2, cl_s, cl_s, if_pos rfl, if_pos (show (0 : Int32) ≤ 0 by decide), cellsOf1 τ hr, cl_s, sizeOf1 τ hr c1, cl_s, kindsByC hP hC ht tC hx hr (by omega) (fun j q => ⟨(hw j q).1, (hw j q).2.1⟩), kindsByM hP hM ht tM hx hr (by omega) m1 (fun j q => ⟨(hw j q).1, (hw j q).2.2⟩), cl_s, cl_s]
    exact ⟨_, _, _, rfl, rfl, h⟩
theorem s_monthly (τ σ : St) (h : Rel τ σ) (a1 a2 : Int32) : ∃ (τ' σ' : St) (r : Int32), fX10_monthly τ a1 a2 = some (τ', r) ∧ fX11_monthly σ a1 a2 = some (σ', r) ∧ Rel τ' σ' := by
  obtain ⟨P, t, hP, hC, hM, ht, tC, tM⟩ := h.view
  have h6 := hP.1
  unfold fX10_monthly fX11_monthly
  rcases ix_cases a1 (pH P) (by omega) with ⟨x, hx, rfl⟩ | hbad
  case inr =>
    rw [isHouseC_n hC hbad, isHouseM_n hP hM hbad]
    exact ⟨_, _, _, rfl, rfl, h⟩
  rw [isHouseC_y hP hC hx, isHouseM_y hP hM hx]
  simp only [cl_s, o10, if_false]
  rcases ix_cases a2 6 (by omega) with ⟨r, hr, rfl⟩ | hbad
  case inr =>
    rw [isOne1_no τ hbad, isRow_no σ hbad]
    exact ⟨_, _, _, rfl, rfl, h⟩
  rw [isOne1_yes τ hr, isRow_yes σ hr]
  simp only [cl_s, o10, if_false]
  have hk := (hP.2.2.2.1 x hx).1
  rcases lacksR h (m := 20) (v := 99) hr (by omega) (by omega) with ⟨τ', σ', l1, l2, l3⟩ | ⟨l1, l2, n, w, n1, n20, c1, m1, hw⟩
  · rw [show fX10_refuseCells τ (nI r) 20 99 = _ from l1, show fX11_lacks σ (nI r) 20 99 = _ from l2, cl_s, cl_s, if_neg (show ¬ (-3 : Int32) = 0 by decide), if_neg (show ¬ (0 : Int32) ≤ -3 by decide)]
    exact ⟨_, _, _, rfl, rfl, l3⟩
  · have eC : fX1_incomesBy τ (nI x) (4 + r) (nI n) = some (τ, fo (fKs (fun v => ftB (kd P x) v w 0 n (t (1 + x)))) 0 10 (nI 0)) := by
      unfold fX1_incomesBy
      rw [show (0 : Int32) = nI 0 from rfl, aloop (fun n' σ a i k => fX1_incomesBy_L6 (nI x) (4 + r) (nI n) n' σ a i (fun σ a i => k σ a i)) 10 τ (fKs (fun v => ftB (kd P x) v w 0 n (t (1 + x)))) (fun n' a i k hi => ?_) 10 0 10000 (nI 0) _ (by omega) (by omega)]
      rw [fX1_incomesBy_L6, L_9]
      by_cases q : 10 ≤ i
      · rw [if_pos q, if_pos (nI_lt (by omega) (by omega))]
      · have F : fX1_fits τ (nI (kd P x)) (nI i) (nI (t (1 + x))) (4 + r) (nI n) = some (τ, if ftB (kd P x) i w 0 n (t (1 + x)) then 1 else 0) := fitsC (k := kd P x) (i := i) (u := t (1 + x)) hk (by omega) hr (by omega) (fun j q => ⟨(hw j q).1, (hw j q).2.1⟩) n 0 10000 (by omega) (by omega) (ht.2.1 x hx)
        rw [if_neg q, if_neg (nI_nlt (by omega) (by omega)), rdC (show x < LC 31 by show x < 6; omega), (hC.2.2.1 x hx).1, rdC (show x < LC 33 by show x < 6; omega), tC.2.1 x hx, F, cl_s, pv_s, nI_1]
        simp only [fKs]
        by_cases z : ftB (kd P x) i w 0 n (t (1 + x)) = true
        · rw [if_pos z, if_pos z, if_neg (show ¬ (1 : Int32) = 0 by decide)]
        · rw [if_neg z, if_neg z, if_pos rfl]
    have eM : fX11_monthly_L39 (nI x) (nI r) 10000 σ (nI 0) (nI 0) (fun σ15 v16 v17 => some (σ15, v16)) = some (σ, fo (fKs (fun v => ftB (kd P x) v w 0 n (t (1 + x)))) 0 10 (nI 0)) := by
      rw [aloop (fun n' σ a i k => fX11_monthly_L39 (nI x) (nI r) n' σ a i (fun σ a i => k σ a i)) 10 σ (fKs (fun v => ftB (kd P x) v w 0 n (t (1 + x)))) (fun n' a i k hi => ?_) 10 0 10000 (nI 0) _ (by omega) (by omega)]
      rw [fX11_monthly_L39, L_10]
      by_cases q : 10 ≤ i
      · rw [if_pos q, if_pos (nI_le q (by omega))]
      · rw [if_neg q, if_neg (nI_ge (by omega) (by omega)), rdM (show x < LM 5 by show x < 6; omega), (hM.2.2.1 x hx).1, fitsM2 hP ht tM hx hr (by omega) m1 (fun j q => ⟨(hw j q).1, (hw j q).2.2⟩) hk (show i ≤ 9 by omega), cl_s, pv_s, nI_1]
        simp only [fKs]
        by_cases z : ftB (kd P x) i w 0 n (t (1 + x)) = true
        · rw [if_pos z, if_pos z, if_neg (show ¬ (1 : Int32) = 0 by decide)]
        · rw [if_neg z, if_neg z, if_pos rfl, Int32.or_zero]
    rw [show fX10_refuseCells τ (nI r) 20 99 = _ from l1, show fX11_lacks σ (nI r) 20 99 = _ from l2, cl_s, cl_s, if_pos rfl, if_pos (show (0 : Int32) ≤ 0 by decide), cellsOf1 τ hr, cl_s, sizeOf1 τ hr c1, cl_s, eC, cl_s, show fX11_monthly_L39 (nI x) (nI r) 10000 σ 0 0 (fun σ15 v16 v17 => some (σ15, v16)) = _ from eM]
    exact ⟨_, _, _, rfl, rfl, h⟩
