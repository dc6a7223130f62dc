/-! steps: later, soon, feast -/
theorem Rel.fr {τ σ τ' σ' : St} (h : Rel τ σ) (hC : ∀ k, k < 17 ∨ (24 ≤ k ∧ k < 41) ∨ k = 51 → τ'.1 k = τ.1 k) (hC2 : τ'.2 = τ.2) (hM : ∀ k, 1 ≤ k → k < 16 → k ≠ 11 → σ'.1 k = σ.1 k) (hM0 : ∀ j, j < 22 → σ'.1 0 j = σ.1 0 j) (hM2 : σ'.2 = σ.2) : Rel τ' σ' := by
  obtain ⟨⟨a1, a2, a3, a4, a5⟩, h2, h3, h4⟩ := h
  refine ⟨⟨?_, ?_, fun f hf => ?_, ?_, ?_⟩, h2.fr (fun k a b => hC k (by omega)) (fun k a b => hM k (by omega) (by omega) (by omega)), h3.fr (fun k a b => hC k (by omega)) (fun k a b => hM k (by omega) (by omega) (by omega)), h4.fr (fun k a b => hC k (by omega)) (fun k a b c => hM k (by omega) (by omega) c) (hM0 4 (by omega)) (hM0 7 (by omega)) (hM0 14 (by omega))⟩
  · rw [hC 0 (by omega), hM0 17 (by omega)]
    exact a1
  · rw [hC 0 (by omega), hM0 20 (by omega)]
    exact a2
  · rw [hC 51 (by omega), hM 15 (by omega) (by omega) (by omega)]
    exact a3 f hf
  · rw [hC2, hM2]
    exact a4
  · rw [hC2, hM2]
    exact a5
theorem Rel.aside {τ σ σ' : St} (h : Rel τ σ) (e : eqB 11 σ σ') : Rel τ σ' := h.fr (fun _ _ => rfl) rfl (fun k _ _ c => e.1 k c) (fun j _ => by rw [e.1 0 (by omega)]) e.2
theorem n_1p (a : Nat) : (1 : Int32) + nI a = nI (1 + a) := nI_add 1 a
def itU (k i u : Nat) : Nat → Nat
  | 0 => u
  | n + 1 => nxt k i (itU k i u n)
theorem itU_le {k i u : Nat} (hu : u ≤ 99) : ∀ n, itU k i u n ≤ 99
  | 0 => hu
  | _ + 1 => nxt_le _ _ _
def itT (P : Pl) (inc : Nat → Nat) (t : Tw) : Nat → Tw
  | 0 => t
  | n + 1 => monthN P inc (itT P inc t n)
theorem itT_0 (P : Pl) (inc : Nat → Nat) (t : Tw) : ∀ n, itT P inc t n 0 = t 0 + n
  | 0 => rfl
  | n + 1 => by
    show itT P inc t n 0 + 1 = _
    rw [itT_0 P inc t n, Nat.add_assoc]
theorem itT_u {P : Pl} {inc : Nat → Nat} {t : Tw} (hP : PlanOk P) {h : Nat} (hh : h < pH P) : ∀ n, itT P inc t n (1 + h) = itU (kd P h) (inc h) (t (1 + h)) n
  | 0 => rfl
  | n + 1 => by
    have h6 := hP.1
    show monthN P inc (itT P inc t n) (1 + h) = nxt _ _ _
    unfold monthN
    rw [if_neg (by omega), if_pos (by omega), if_pos (by omega), Nat.add_sub_cancel_left, itT_u hP hh n]
theorem itT_z {P : Pl} {inc : Nat → Nat} {t : Tw} {h : Nat} (hh : pH P ≤ h) (h6 : h < 6) : ∀ n, itT P inc t n (1 + h) = t (1 + h)
  | 0 => rfl
  | n + 1 => by
    show monthN P inc (itT P inc t n) (1 + h) = _
    unfold monthN
    rw [if_neg (by omega), if_pos (by omega), if_neg (by omega), itT_z hh h6 n]
theorem itT_e {P : Pl} {inc : Nat → Nat} {t : Tw} (ht : TwOk P t) {s : Nat} (hs : s < 48) : ∀ n, itT P inc t n (7 + s) = if t (7 + s) ≤ t 0 + n then 0 else t (7 + s)
  | 0 => by
    show t (7 + s) = _
    have e := ht.2.2.2 (s / 8) (s % 8) (by omega) (by omega)
    rw [show 7 + 8 * (s / 8) + s % 8 = 7 + s by omega] at e
    by_cases z : t (7 + s) = 0
    · rw [if_pos (by omega), z]
    · rw [if_neg (by have := (e z).2.2.1; omega)]
  | n + 1 => by
    show monthN P inc (itT P inc t n) (7 + s) = _
    unfold monthN
    rw [if_neg (by omega), if_neg (by omega), itT_0, itT_e ht hs n]
    by_cases q : t (7 + s) ≤ t 0 + n
    · rw [if_pos q, if_pos (by omega), if_pos (by omega)]
    · rw [if_neg q, Nat.add_assoc]
theorem itT_W {P : Pl} {inc : Nat → Nat} {t : Tw} (hP : PlanOk P) (ht : TwOk P t) {n : Nat} (hn : n ≤ 60) : TwW P (itT P inc t n) := by
  have h6 := hP.1
  have t99 := ht.1
  refine ⟨fun j hj => ?_, fun h hh => ?_, fun h c hh hc no => ?_⟩
  · by_cases a : j = 0
    · rw [a, itT_0]
      omega
    · by_cases b : j < 7
      · obtain ⟨q, rfl⟩ : ∃ q, j = 1 + q := ⟨j - 1, by omega⟩
        by_cases c : q < pH P
        · rw [itT_u hP c]
          have := itU_le (k := kd P q) (i := inc q) (ht.2.1 q c) n
          omega
        · rw [itT_z (by omega) (by omega)]
          have := ht.2.2.1 q (by omega) (by omega)
          omega
      · obtain ⟨q, rfl⟩ : ∃ q, j = 7 + q := ⟨j - 7, by omega⟩
        rw [itT_e ht (by omega)]
        have := endLe' ht (show q < 48 by omega)
        split <;> omega
  · rw [itT_u hP hh]
    exact itU_le (ht.2.1 h hh) n
  · have := ht.w.2.2 h c hh hc no
    rw [show 7 + 8 * h + c = 7 + (8 * h + c) by omega] at this ⊢
    rw [itT_e ht (by omega), this, if_pos (by omega)]
theorem asideM {σ : St} {t : Tw} (tM : TwM (σ.1 10) t) : ∃ ρ, fX11_laysAside σ = some (ρ, ()) ∧ eqB 11 σ ρ ∧ TwM (ρ.1 11) t := by
  unfold fX11_laysAside
  rw [L_0, L_55, copiesM (a := 10) (b := 11) (i := 0) (j := 0) (n := 55) (by omega) (by show 0 + 55 ≤ 55; omega) (by show 0 + 55 ≤ 55; omega) (by omega), cl_s]
  refine ⟨_, rfl, ⟨fun c hc => sc_o hc, rfl⟩, fun j hj => ?_⟩
  rw [sc_s, if_pos (by omega), Nat.sub_zero, Nat.zero_add]
  exact tM j hj
theorem goesM {σ : St} {P : Pl} {t : Tw} {inc : Nat → Nat} {out : Nat → Bool} {w : Int32} {n : Nat} (hP : PlanOk P) (hM : PlM σ P) (ht : TwOk P t) (tM : TwM (σ.1 11) t) (hw : ∀ (ρ : St) h, h < pH P → fX11_has ρ w (nI h) = some (ρ, if out h then 1 else 0)) (hi0 : ∀ h, h < pH P → inc h = if out h then 0 else ic P h) (hn : n ≤ 60) : ∃ ρ v, fX11_goesOn σ (nI n) w = some (ρ, v) ∧ eqB 11 σ ρ ∧ TwM (ρ.1 11) (itT P inc t n) := by
  unfold fX11_goesOn
  rw [L_0]
  have L := jloop (fun n' σ a i k2 => fX11_goesOn_L5 (nI n) w n' σ a i (fun σ a i => k2 σ a i)) n (fun i ρ _ => eqB 11 σ ρ ∧ TwM (ρ.1 11) (itT P inc t i)) (fun σ6 v7 v8 => some (σ6, v7)) (fun n' ρ b hI => by
      show fX11_goesOn_L5 (nI n) w (n' + 1) ρ b (nI n) (fun σ6 v7 v8 => some (σ6, v7)) = _
      rw [fX11_goesOn_L5, if_pos (nI_le (by omega) (by omega))]) (fun n' ρ b i hi hI => by
      obtain ⟨q1, q2⟩ := hI
      obtain ⟨ρ1, r1, r2, r3⟩ := passesM (inc := inc) (out := out) (k := 11) (w := w) hP (q1.plan (Or.inr rfl) hM) (Or.inr rfl) (itT_W hP ht (show i ≤ 60 by omega)) q2 hw hi0
      refine ⟨ρ1, b + fo (fFade (itT P inc t i)) 0 48 0, ⟨q1.trans r2, r3⟩, ?_⟩
      show fX11_goesOn_L5 (nI n) w (n' + 1) ρ b (nI i) (fun σ6 v7 v8 => some (σ6, v7)) = _
      rw [fX11_goesOn_L5, if_neg (nI_ge hi (by omega)), r1, cl_s, nI_1]) n 0 10000 σ (nI 0) (by omega) (by omega) ⟨eqB.rf 11 σ, tM⟩
  obtain ⟨ρ, b, hI, e⟩ := L
  exact ⟨ρ, b, e, hI.1, hI.2⟩
theorem purseInC {τ : St} {P : Pl} {t : Tw} (hP : PlanOk P) (hC : PlC τ P) (ht : TwOk P t) (tC : TwC τ P t) {h n : Nat} (hh : h < pH P) (hn : n < 1000) : fX5_purseIn τ (nI h) (nI n) = some (τ, nI (itU (kd P h) (ic P h) (t (1 + h)) n)) := by
  have h6 := hP.1
  unfold fX5_purseIn
  rw [rdC (show h < LC 33 by show h < 6; omega), tC.2.1 h hh, L_0]
  have L := jloop (fun n' σ a i k2 => fX5_purseIn_L10 (nI h) (nI n) n' σ a i (fun σ a i => k2 σ a i)) n (fun i ρ b => ρ = τ ∧ b = nI (itU (kd P h) (ic P h) (t (1 + h)) i)) (fun σ7 v8 v9 => some (σ7, v8)) (fun n' ρ b hI => by
      show fX5_purseIn_L10 (nI h) (nI n) (n' + 1) ρ b (nI n) (fun σ7 v8 v9 => some (σ7, v8)) = _
      rw [fX5_purseIn_L10, if_pos (nI_le (by omega) (by omega))]) (fun n' ρ b i hi hI => by
      obtain ⟨q1, q2⟩ := hI
      rw [q1, q2]
      refine ⟨τ, nI (itU (kd P h) (ic P h) (t (1 + h)) (i + 1)), ⟨rfl, rfl⟩, ?_⟩
      show fX5_purseIn_L10 (nI h) (nI n) (n' + 1) τ (nI (itU (kd P h) (ic P h) (t (1 + h)) i)) (nI i) (fun σ7 v8 v9 => some (σ7, v8)) = _
      rw [fX5_purseIn_L10, if_neg (nI_ge hi (by omega)), purseC hP hC hh (itU_le (ht.2.1 h hh) i), cl_s, nI_1]
      rfl) n 0 10000 τ (nI (t (1 + h))) (by omega) (by omega) ⟨rfl, rfl⟩
  obtain ⟨ρ, b, ⟨q1, q2⟩, e⟩ := L
  rw [q1, q2] at e
  exact e
theorem allPursesC {τ : St} {P : Pl} {t : Tw} (hP : PlanOk P) (hC : PlC τ P) (ht : TwOk P t) (tC : TwC τ P t) {n : Nat} (hn : n < 1000) : fX5_allPursesIn τ (nI n) = some (τ, fo (fun a h => a + nI (itU (kd P h) (ic P h) (t (1 + h)) n)) 0 (pH P) 0) := by
  have h6 := hP.1
  unfold fX5_allPursesIn
  rw [show (0 : Int32) = nI 0 from rfl, aloop (fun n' σ a i k => fX5_allPursesIn_L4 (nI n) n' σ a i (fun σ a i => k σ a i)) (pH P) τ (fun a h => a + nI (itU (kd P h) (ic P h) (t (1 + h)) n)) (fun n' a i k hi => ?_) (pH P) 0 10000 (nI 0) _ (by omega) (by omega)]
  rw [fX5_allPursesIn_L4, hC.1]
  by_cases q : pH P ≤ i
  · rw [if_pos q, if_pos (nI_le q (by omega))]
  · rw [if_neg q, if_neg (nI_ge (by omega) (by omega)), purseInC hP hC ht tC (show i < pH P by omega) hn, cl_s, nI_1]
theorem s_later (τ σ : St) (h : Rel τ σ) (a1 a2 : Int32) : ∃ (τ' σ' : St) (r : Int32), fX10_later τ a1 a2 = some (τ', r) ∧ fX11_later σ a1 a2 = some (σ', r) ∧ Rel τ' σ' := by
  obtain ⟨P, t, hP, hC, hM, ht, tC, tM⟩ := h.view
  have h6 := hP.1
  unfold fX10_later fX11_later
  rcases ix_cases a1 (pH P) (by omega) with ⟨x, hx, rfl⟩ | hbad
  case inr =>
    rw [isHouseC_n hC hbad, isHouseM_n hP hM hbad]
    exact ⟨_, _, _, rfl, rfl, h⟩
  rw [isHouseC_y hP hC hx, isHouseM_y hP hM hx]
  simp only [cl_s, o10, if_false]
  by_cases hr : ((0 : Nat) : Int) ≤ a2.toInt ∧ a2.toInt ≤ (60 : Nat)
  case neg =>
    rw [show fX11_in σ a2.toInt64 0 60 = some (σ, nI 0) from in_out σ (a := 0) (n := 60) (by omega) (by omega) hr, cl_s, if_pos (show nI 0 = (0 : Int32) from rfl)]
    by_cases w : a2 < 0
    · rw [if_pos w]
      exact ⟨_, _, _, rfl, rfl, h⟩
    · rw [if_neg w, if_neg (fun q => hr (by rw [i_lt] at w; rw [i_le] at q; have e1 : (0 : Int32).toInt = 0 := rfl; have e9 : (60 : Int32).toInt = 60 := rfl; omega))]
      exact ⟨_, _, _, rfl, rfl, h⟩
  obtain ⟨p, _, p60, rfl⟩ := between hr (by omega)
  obtain ⟨ρ, r1, r2, r3⟩ := asideM tM
  have pM := r2.plan (Or.inr rfl) hM
  obtain ⟨ρ1, v, g1, g2, g3⟩ := goesM (inc := ic P) (out := fun _ => false) (w := 0) hP pM ht r3 (fun ρ h hh => has0 ρ (by omega)) (fun _ _ => rfl) p60
  have eS : fo (fun a i => a + nI (itT P (ic P) t p (1 + i))) 0 (pH P) 0 = fo (fun a h => a + nI (itU (kd P h) (ic P h) (t (1 + h)) p)) 0 (pH P) 0 := fo_congr (pH P) 0 0 (fun a j _ hj => by
    show a + nI (itT P (ic P) t p (1 + j)) = a + nI (itU (kd P j) (ic P j) (t (1 + j)) p)
    rw [itT_u hP (by omega)])
  have e1 : ∀ v, fX5_purseIn (su τ 0 11 v) (nI x) (nI p) = some (su τ 0 11 v, nI (itU (kd P x) (ic P x) (t (1 + x)) p)) := fun v => purseInC (P := P) (t := t) (τ := su τ 0 11 v) hP hC ht tC hx (by omega)
  rw [show fX11_in σ (nI p).toInt64 0 60 = _ from in_yes σ (n := 60) p60 (by omega), cl_s, if_neg (show ¬ (1 : Int32) = 0 by decide), if_neg (nlt0 (by omega)), if_pos (show nI p ≤ (60 : Int32) from nI_le (b := 60) p60 (by omega)), allPursesC hP hC ht tC (by omega), cl_s, pt_s, e1, cl_s, r1, cl_s, g1, cl_s, n_1p, rdM (show 1 + x < LM 11 by show _ < 55; omega), g3 (1 + x) (by omega), itT_u hP hx, sumM hP (g2.plan (Or.inr rfl) pM) rfl g3, cl_s, eS]
  simp only [fX11_answer, pt_s, cl_s]
  exact ⟨_, _, _, rfl, rfl, (h.aside (r2.trans g2)).told _⟩
theorem soonS {τ σ : St} {P : Pl} {t : Tw} (hR : Rel τ σ) (hP : PlanOk P) (hC : PlC τ P) (hM : PlM σ P) (ht : TwOk P t) {h c q : Nat} (hh : h < pH P) (hc : c < pC P) (hq : pay (kd P h) (pr P c) = q) : ∀ (m n f g : Nat) (ρ : St), n + m = 61 → m < f → m < g → eqB 11 σ ρ → TwM (ρ.1 11) (itT P (ic P) t n) → ∃ (τ' σ' : St) (r : Int32), fX10_soon_L48 (nI h) (nI q) f τ (nI (itU (kd P h) (ic P h) (t (1 + h)) n)) (nI n) (fun σ14 v15 v16 => some (σ14, (-9))) = some (τ', r) ∧ fX11_soon_L24 (nI h) (nI c) g ρ (nI n) (fun σ17 v18 => some (σ17, (-9))) = some (σ', r) ∧ Rel τ' σ' := by
  have h6 := hP.1
  intro m
  induction m with
  | zero =>
    intro n f g ρ hn hf hg e1 e2
    match f, g, hf, hg with
    | f + 1, g + 1, _, _ =>
      rw [fX10_soon_L48, fX11_soon_L24, if_pos (show (60 : Int32) < nI n from nI_lt (a := 60) (by omega) (by omega)), if_pos (show (61 : Int32) ≤ nI n from nI_le (a := 61) (by omega) (by omega))]
      exact ⟨_, _, _, rfl, rfl, hR.aside e1⟩
  | succ m ih =>
    intro n f g ρ hn hf hg e1 e2
    have u := itU_le (k := kd P h) (i := ic P h) (ht.2.1 h hh) n
    have q18 : q ≤ 18 := by rw [← hq]; exact pay_le (hP.2.2.2.2 c hc).1.2
    match f, g, hf, hg with
    | f + 1, g + 1, hf, hg =>
      have pM := e1.plan (Or.inr rfl) hM
      rw [fX10_soon_L48, fX11_soon_L24, if_neg (show ¬ (60 : Int32) < nI n from nI_nlt (a := 60) (b := n) (by omega) (by omega)), if_neg (show ¬ (61 : Int32) ≤ nI n from nI_ge (b := 61) (by omega) (by omega)), n_1p, rdM (show 1 + h < LM 11 by show _ < 55; omega), e2 (1 + h) (by omega), itT_u hP hh, paysM hP pM hh hc, cl_s, hq]
      by_cases w : itU (kd P h) (ic P h) (t (1 + h)) n < q
      · obtain ⟨ρ1, r1, r2, r3⟩ := passM hP pM (Or.inr rfl) (itT_W hP ht (show n ≤ 60 by omega)) e2
        rw [if_pos (nI_lt w (by omega)), if_pos (nI_lt w (by omega)), purseC hP hC hh u, cl_s, r1, cl_s, nI_1]
        exact ih (n + 1) f g ρ1 (by omega) (by omega) (by omega) (e1.trans r2) r3
      · rw [if_neg (nI_nlt (by omega) (by omega)), if_neg (nI_nlt (by omega) (by omega)), rdM (show 1 + h < LM 11 by show _ < 55; omega), e2 (1 + h) (by omega), itT_u hP hh]
        simp only [fX11_answer, pt_s, cl_s]
        exact ⟨_, _, _, rfl, rfl, (hR.aside e1).told _⟩
theorem s_soon (τ σ : St) (h : Rel τ σ) (a1 a2 : Int32) : ∃ (τ' σ' : St) (r : Int32), fX10_soon τ a1 a2 = some (τ', r) ∧ fX11_soon σ a1 a2 = some (σ', r) ∧ Rel τ' σ' := by
  obtain ⟨P, t, hP, hC, hM, ht, tC, tM⟩ := h.view
  have h6 := hP.1
  have h8 := hP.2.1
  unfold fX10_soon fX11_soon
  rcases ix_cases a1 (pH P) (by omega) with ⟨x, hx, rfl⟩ | hbad
  case inr =>
    rw [isHouseC_n hC hbad, isHouseM_n hP hM hbad]
    exact ⟨_, _, _, rfl, rfl, h⟩
  rw [isHouseC_y hP hC hx, isHouseM_y hP hM hx]
  simp only [cl_s, o10, if_false]
  rcases ix_cases a2 (pC P) (by omega) with ⟨c, hc, rfl⟩ | hbad
  case inr =>
    rw [isColourC_n hC hbad, isColourM_n hP hM hbad]
    exact ⟨_, _, _, rfl, rfl, h⟩
  rw [isColourC_y hP hC hc, isColourM_y hP hM hc]
  simp only [cl_s, o10, if_false]
  obtain ⟨ρ, r1, r2, r3⟩ := asideM tM
  rw [paysC hP hC hx hc, cl_s, rdC (show x < LC 33 by show x < 6; omega), tC.2.1 x hx, r1, cl_s, L_0]
  exact soonS h hP hC hM ht hx hc rfl 61 0 10000 10000 ρ (by omega) (by omega) (by omega) r2 r3
theorem and1 (x : Int32) : x &&& 1 = 0 ∨ x &&& 1 = 1 := by
  obtain ⟨j, hj, e⟩ := pk_andE x (m := 1) 1 rfl
  rw [e]
  match j, hj with
  | 0, _ => exact Or.inl rfl
  | 1, _ => exact Or.inr rfl
def cst (P : Pl) (t : Tw) (h : Nat) (S : Int32) (m : Nat) (a : Int32) (c : Nat) : Int32 := if (S >>> (nI c &&& 31)) &&& 1 = 0 then a else if m < t (7 + 8 * h + c) then a else a + nI (pay (kd P h) (pr P c))
theorem costC {τ : St} {P : Pl} {t : Tw} (hP : PlanOk P) (hC : PlC τ P) (ht : TwOk P t) (tC : TwC τ P t) {h m : Nat} (hh : h < pH P) (hm : m < 1000) (S : Int32) : fX5_costOf τ (nI h) S (nI m) = some (τ, fo (cst P t h S m) 0 (pC P) 0) := by
  have h6 := hP.1
  have h8 := hP.2.1
  unfold fX5_costOf
  rw [show (0 : Int32) = nI 0 from rfl, aloop (fun n' σ a i k => fX5_costOf_L6 (nI h) S (nI m) n' σ a i (fun σ a i => k σ a i)) (pC P) τ (cst P t h S m) (fun n' a i k hi => ?_) (pC P) 0 10000 (nI 0) _ (by omega) (by omega)]
  rw [fX5_costOf_L6, hC.2.1]
  by_cases q : pC P ≤ i
  · rw [if_pos q, if_pos (nI_le q (by omega))]
  · have e := endLe ht (h := h) (c := i) (by omega) (by omega)
    rw [if_neg q, if_neg (nI_ge (by omega) (by omega)), pv_s, jn_s, nI_1]
    unfold cst
    by_cases b : (S >>> (nI i &&& 31)) &&& 1 = 0
    · rw [if_pos b, if_pos b, if_pos rfl]
    · rw [if_neg b, if_neg b, if_neg (show ¬ (1 : Int32) = 0 by decide), endC tC (by omega) (by omega), cl_s]
      by_cases z : m < t (7 + 8 * h + i)
      · rw [if_pos z, if_pos (nI_lt z (by omega))]
      · rw [if_neg z, if_neg (nI_nlt (by omega) (by omega)), paysC hP hC hh (show i < pC P by omega), cl_s]
theorem ownsW {σ : St} {t : Tw} {k : Nat} (hb : ∀ j, j < 55 → t j < 100000) (hk : LM k = 55) (hM : TwM (σ.1 k) t) {h c : Nat} (hh : h < 6) (hc : c < 8) : fX11_owns σ k (nI h) (nI c) = some (σ, ow t h c) := by
  unfold fX11_owns ow
  have e := hb (7 + 8 * h + c) (by omega)
  rw [L_8, L_7, pk_mul, nI_add, nI_add, rdM (show 7 + 8 * h + c < LM k by omega), hM (7 + 8 * h + c) (by omega)]
  by_cases q : t (7 + 8 * h + c) = 0
  · rw [q, if_pos rfl]
    rfl
  · rw [if_neg q, if_neg (show ¬ nI (t (7 + 8 * h + c)) ≤ 0 from nI_nle (by omega) (by omega))]
theorem hasB0 (σ : St) {S i : Int32} (b : (S >>> (i &&& 31)) &&& 1 = 0) : fX11_has σ S i = some (σ, 0) := by
  unfold fX11_has
  rw [if_neg (by rw [b]; decide)]
theorem hasB1 (σ : St) {S i : Int32} (b : (S >>> (i &&& 31)) &&& 1 = 1) : fX11_has σ S i = some (σ, 1) := by
  unfold fX11_has
  rw [if_pos b]
theorem dueM {ρ : St} {P : Pl} {t : Tw} (hP : PlanOk P) (hM : PlM ρ P) (ht : TwOk P t) {h n : Nat} (hh : h < pH P) (hn : n ≤ 60) (tM : TwM (ρ.1 11) (itT P (ic P) t n)) (S v8 : Int32) (k : St → Int32 → Int32 → Option (St × Int32)) : fX11_feast_L46 (nI h) S v8 10000 ρ 0 0 k = k ρ (fo (cst P t h S (t 0 + n)) 0 (pC P) 0) (nI (pC P)) := by
  have h6 := hP.1
  have h8 := hP.2.1
  rw [show (0 : Int32) = nI 0 from rfl, aloop (fun n' σ a i k => fX11_feast_L46 (nI h) S v8 n' σ a i (fun σ a i => k σ a i)) (pC P) ρ (cst P t h S (t 0 + n)) (fun n' a i k hi => ?_) (pC P) 0 10000 (nI 0) k (by omega) (by omega)]
  rw [fX11_feast_L46, hM.2.1]
  by_cases q : pC P ≤ i
  · rw [if_pos q, if_pos (nI_le q (by omega))]
  · rw [if_neg q, if_neg (nI_ge (by omega) (by omega)), nI_1]
    unfold cst
    rcases and1 (S >>> (nI i &&& 31)) with b | b
    · rw [hasB0 ρ b, if_pos b]
      simp only [cl_s, jn_s, if_true, Int32.add_zero]
    · have W := itT_W (inc := ic P) hP ht hn
      rw [hasB1 ρ b, if_neg (by rw [b]; decide), cl_s, jn_s, jn_s, if_neg (show ¬ (1 : Int32) = 0 by decide), ownsW W.1 rfl tM (by omega) (by omega), cl_s]
      have eo : (ow (itT P (ic P) t n) h i = 0) = ¬ (t 0 + n < t (7 + 8 * h + i)) := by
        rw [ow0, Nat.add_assoc 7, itT_e ht (by omega)]
        by_cases z : t (7 + (8 * h + i)) ≤ t 0 + n
        · rw [if_pos z]
          simp
          omega
        · rw [if_neg z]
          simp
          omega
      by_cases z : t 0 + n < t (7 + 8 * h + i)
      · rw [if_pos z, if_neg (by rw [eo]; omega)]
        simp only [Int32.add_zero]
      · rw [if_neg z, if_pos (by rw [eo]; exact z), paysM hP hM hh (show i < pC P by omega), cl_s]
theorem feastS {τ σ : St} {P : Pl} {t : Tw} (hR : Rel τ σ) (hP : PlanOk P) (hC : PlC τ P) (hM : PlM σ P) (ht : TwOk P t) (tC : TwC τ P t) {h : Nat} {S : Int32} (hh : h < pH P) : ∀ (m n f g : Nat) (ρ : St), n + m = 61 → m < f → m < g → eqB 11 σ ρ → TwM (ρ.1 11) (itT P (ic P) t n) → ∃ (τ' σ' : St) (r : Int32), fX10_feast_L43 (nI h) S f τ (nI (itU (kd P h) (ic P h) (t (1 + h)) n)) (nI n) (fun σ12 v13 v14 => some (σ12, (-9))) = some (τ', r) ∧ fX11_feast_L34 (nI h) S g ρ (nI n) (fun σ31 v32 => some (σ31, (-9))) = some (σ', r) ∧ Rel τ' σ' := by
  have h6 := hP.1
  have t99 := ht.1
  intro m
  induction m with
  | zero =>
    intro n f g ρ hn hf hg e1 e2
    match f, g, hf, hg with
    | f + 1, g + 1, _, _ =>
      rw [fX10_feast_L43, fX11_feast_L34, if_pos (show (60 : Int32) < nI n from nI_lt (a := 60) (by omega) (by omega)), if_pos (show (61 : Int32) ≤ nI n from nI_le (a := 61) (by omega) (by omega))]
      exact ⟨_, _, _, rfl, rfl, hR.aside e1⟩
  | succ m ih =>
    intro n f g ρ hn hf hg e1 e2
    have u := itU_le (k := kd P h) (i := ic P h) (ht.2.1 h hh) n
    match f, g, hf, hg with
    | f + 1, g + 1, hf, hg =>
      have pM := e1.plan (Or.inr rfl) hM
      rw [fX10_feast_L43, fX11_feast_L34, if_neg (show ¬ (60 : Int32) < nI n from nI_nlt (a := 60) (b := n) (by omega) (by omega)), if_neg (show ¬ (61 : Int32) ≤ nI n from nI_ge (b := 61) (by omega) (by omega)), tC.1, nI_add, costC hP hC ht tC hh (by omega), cl_s, dueM hP pM ht hh (by omega) e2, n_1p, rdM (show 1 + h < LM 11 by show _ < 55; omega), e2 (1 + h) (by omega), itT_u hP hh]
      by_cases w : nI (itU (kd P h) (ic P h) (t (1 + h)) n) < fo (cst P t h S (t 0 + n)) 0 (pC P) 0
      · obtain ⟨ρ1, r1, r2, r3⟩ := passM hP pM (Or.inr rfl) (itT_W hP ht (show n ≤ 60 by omega)) e2
        rw [if_pos w, if_pos w, purseC hP hC hh u, cl_s, r1, cl_s, nI_1]
        exact ih (n + 1) f g ρ1 (by omega) (by omega) (by omega) (e1.trans r2) r3
      · rw [if_neg w, if_neg w]
        simp only [fX11_answer, pt_s, cl_s]
        exact ⟨_, _, _, rfl, rfl, (hR.aside e1).told _⟩
theorem shl1 {c : Nat} (h : c ≤ 9) : (1 : Int32) <<< (nI c &&& 31) = nI (2 ^ c) := by
  match c, h with
  | 0, _ => rfl
  | 1, _ => rfl
  | 2, _ => rfl
  | 3, _ => rfl
  | 4, _ => rfl
  | 5, _ => rfl
  | 6, _ => rfl
  | 7, _ => rfl
  | 8, _ => rfl
  | 9, _ => rfl
theorem s_feast (τ σ : St) (h : Rel τ σ) (a1 a2 : Int32) : ∃ (τ' σ' : St) (r : Int32), fX10_feast τ a1 a2 = some (τ', r) ∧ fX11_feast σ a1 a2 = some (σ', r) ∧ Rel τ' σ' := by
  obtain ⟨P, t, hP, hC, hM, ht, tC, tM⟩ := h.view
  have h6 := hP.1
  have h8 := hP.2.1
  have e2 : 2 ^ pC P ≤ 2 ^ 8 := Nat.pow_le_pow_right (by omega) h8
  unfold fX10_feast fX11_feast
  rcases ix_cases a1 (pH P) (by omega) with ⟨x, hx, rfl⟩ | hbad
  case inr =>
    rw [isHouseC_n hC hbad, isHouseM_n hP hM hbad]
    exact ⟨_, _, _, rfl, rfl, h⟩
  rw [isHouseC_y hP hC hx, isHouseM_y hP hM hx]
  simp only [cl_s, o10, if_false]
  rw [hC.2.1, hM.2.1, shl1 (by omega)]
  rcases ix_cases a2 (2 ^ pC P) (by omega) with ⟨c, hc, rfl⟩ | hbad
  case inr =>
    rw [inS_n σ (by omega) hbad, cl_s, if_pos rfl]
    by_cases w : a2 < 0
    · rw [if_pos w]
      exact ⟨_, _, _, rfl, rfl, h⟩
    · rw [if_neg w, if_neg (fun q => by rcases hbad with q2 | q2; exact w q2; rw [i_lt] at q; rw [i_le] at q2; omega)]
      exact ⟨_, _, _, rfl, rfl, h⟩
  obtain ⟨ρ, r1, r2, r3⟩ := asideM tM
  rw [inS_y σ (by omega) hc, cl_s, if_neg (show ¬ (1 : Int32) = 0 by decide), if_neg (nlt0 (by omega)), if_pos (nI_lt hc (by omega)), rdC (show x < LC 33 by show x < 6; omega), tC.2.1 x hx, r1, cl_s, L_0]
  exact feastS h hP hC hM ht tC hx 61 0 10000 10000 ρ (by omega) (by omega) (by omega) r2 r3
