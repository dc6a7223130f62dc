/-! steps: shop, best -/
theorem k10 {P : Nat → Prop} (h0 : P 0) (h1 : P 1) (h2 : P 2) (h3 : P 3) (h4 : P 4) (h5 : P 5) (h6 : P 6) (h7 : P 7) (h8 : P 8) (h9 : P 9) {k : Nat} (b : k ≤ 9) : P k := by
  match k, b with
  | 0, _ => exact h0
  | 1, _ => exact h1
  | 2, _ => exact h2
  | 3, _ => exact h3
  | 4, _ => exact h4
  | 5, _ => exact h5
  | 6, _ => exact h6
  | 7, _ => exact h7
  | 8, _ => exact h8
  | 9, _ => exact h9
theorem shm {c : Nat} (hc : c ≤ 9) : ((nI c &&& 31).toBitVec.smod 32).toNat = c := k10 (P := fun c => ((nI c &&& 31).toBitVec.smod 32).toNat = c) rfl rfl rfl rfl rfl rfl rfl rfl rfl rfl hc
theorem tbI {S c : Nat} (hS : S < 2 ^ 31) (hc : c ≤ 9) : (nI S >>> (nI c &&& 31)) &&& 1 = if S.testBit c then 1 else 0 := by
  have d : S / 2 ^ c ≤ S := Nat.div_le_self _ _
  rw [pk_shrN hS _ c (shm hc), pk_andN (n := S / 2 ^ c) (by omega) (m := 1) 1 rfl, Nat.testBit_eq_decide_div_mod_eq]
  by_cases q : S / 2 ^ c % 2 = 1
  · rw [decide_eq_true q, show S / 2 ^ c % 2 ^ 1 = 1 from q]
    rfl
  · rw [decide_eq_false q, show S / 2 ^ c % 2 ^ 1 = 0 by omega]
    rfl
theorem hasN (σ : St) {S c : Nat} (hS : S < 2 ^ 31) (hc : c ≤ 9) : fX11_has σ (nI S) (nI c) = some (σ, if S.testBit c then 1 else 0) := by
  unfold fX11_has
  rw [tbI hS hc]
  cases S.testBit c
  · rfl
  · rfl
theorem orS {S c : Nat} (hc : c ≤ 9) : nI S ||| (1 <<< (nI c &&& 31)) = nI (S ||| 2 ^ c) := by
  rw [shl1 hc, orN]
def owM (t : Tw) (h : Nat) : Nat → Nat
  | 0 => 0
  | n + 1 => if t (7 + 8 * h + n) = 0 then owM t h n else owM t h n ||| 2 ^ n
theorem owM_lt (t : Tw) (h : Nat) : ∀ n, owM t h n < 2 ^ n
  | 0 => Nat.one_pos
  | n + 1 => by
    have i := owM_lt t h n
    have p : 2 ^ n < 2 ^ (n + 1) := Nat.pow_lt_pow_right (by omega) (by omega)
    show (if t (7 + 8 * h + n) = 0 then owM t h n else owM t h n ||| 2 ^ n) < 2 ^ (n + 1)
    split
    · omega
    · exact Nat.or_lt_two_pow (by omega) p
theorem owM_tb (t : Tw) (h d : Nat) : ∀ n, (owM t h n).testBit d = (decide (d < n) && decide (¬ t (7 + 8 * h + d) = 0))
  | 0 => by
    rw [show owM t h 0 = 0 from rfl, Nat.zero_testBit]
    simp
  | n + 1 => by
    have i := owM_tb t h d n
    show (if t (7 + 8 * h + n) = 0 then owM t h n else owM t h n ||| 2 ^ n).testBit d = _
    by_cases z : d = n
    · rw [z] at i ⊢
      by_cases q : t (7 + 8 * h + n) = 0
      · rw [if_pos q, i, q]
        simp
      · rw [if_neg q, tb_or]
        simp [q]
    · by_cases q : t (7 + 8 * h + n) = 0
      · rw [if_pos q, i, show decide (d < n + 1) = decide (d < n) by rw [decide_eq_decide]; omega]
      · rw [if_neg q, tb_or, i, show decide (n = d) = false from decide_eq_false (by omega), Bool.or_false, show decide (d < n + 1) = decide (d < n) by rw [decide_eq_decide]; omega]
theorem owM_eq (t : Tw) (h : Nat) : ∀ n, n ≤ 8 → fo (fSet t h) 0 n 0 = nI (owM t h n)
  | 0, _ => rfl
  | n + 1, hn => by
    rw [fo_succ, owM_eq t h n (by omega), Nat.zero_add]
    unfold fSet
    show _ = nI (if t (7 + 8 * h + n) = 0 then owM t h n else owM t h n ||| 2 ^ n)
    by_cases q : t (7 + 8 * h + n) = 0
    · rw [if_pos q, if_pos q]
    · rw [if_neg q, if_neg q, orS (by omega)]
abbrev coP (P : Pl) (h c : Nat) : Nat := pay (kd P h) (pr P c)
abbrev tiP (P : Pl) (h c : Nat) : Nat := hold (kd P h) (la P c)
theorem coP_b {P : Pl} (hP : PlanOk P) (h : Nat) {c : Nat} (hc : c < pC P) : 1 ≤ coP P h c ∧ coP P h c ≤ 18 ∧ tiP P h c ≤ 11 := ⟨pay_pos (hP.2.2.2.2 c hc).1.1, pay_le (hP.2.2.2.2 c hc).1.2, hold_le (hP.2.2.2.2 c hc).2.1.2⟩
theorem paysCo {τ : St} {P : Pl} (hP : PlanOk P) (hC : PlC τ P) {h c : Nat} (hh : h < pH P) (hc : c < pC P) : fX6_pays τ (nI h) (nI c) = some (τ, nI (coP P h c)) := paysC hP hC hh hc
theorem paysMo {σ : St} {P : Pl} (hP : PlanOk P) (hM : PlM σ P) {h c : Nat} (hh : h < pH P) (hc : c < pC P) : fX11_pays σ (nI h) (nI c) = some (σ, nI (coP P h c)) := paysM hP hM hh hc
def eqK (τ τ' : St) : Prop := (∀ k, k ≠ 42 → k ≠ 43 → τ'.1 k = τ.1 k) ∧ τ'.2 = τ.2
theorem eqK.rf (τ : St) : eqK τ τ := ⟨fun _ _ _ => rfl, rfl⟩
theorem eqK.trans {a b c : St} (h : eqK a b) (g : eqK b c) : eqK a c := ⟨fun k x y => (g.1 k x y).trans (h.1 k x y), g.2.trans h.2⟩
theorem eqK.w {τ : St} {k i : Nat} {v : Int32} (h : k = 42 ∨ k = 43) : eqK τ (su τ k i v) := ⟨fun j a b => su_o (by omega), rfl⟩
theorem eqK.plan {τ τ' : St} (h : eqK τ τ') {P : Pl} (hC : PlC τ P) : PlC τ' P := by
  unfold PlC
  rw [h.1 26 (by omega) (by omega), h.1 31 (by omega) (by omega), h.1 32 (by omega) (by omega), h.1 29 (by omega) (by omega), h.1 30 (by omega) (by omega), h.1 28 (by omega) (by omega), h.1 27 (by omega) (by omega)]
  exact hC
theorem eqK.town {τ τ' : St} (h : eqK τ τ') {P : Pl} {t : Tw} (tC : TwC τ P t) : TwC τ' P t := by
  unfold TwC
  rw [h.1 25 (by omega) (by omega), h.1 33 (by omega) (by omega), h.1 34 (by omega) (by omega)]
  exact tC
def Lk (τ : St) (P : Pl) (h : Nat) : Prop := ∀ c, c < pC P → τ.1 42 c = nI (coP P h c) ∧ τ.1 43 c = nI (tiP P h c)
theorem lookC {τ : St} {P : Pl} (hP : PlanOk P) (hC : PlC τ P) {h : Nat} (hh : h < pH P) : ∃ τ', fX4_look τ (nI h) = some (τ', ()) ∧ eqK τ τ' ∧ Lk τ' P h := by
  have h8 := hP.2.1
  unfold fX4_look
  rw [L_0]
  have L := iloop (fun n σ i k => fX4_look_L2 (nI h) n σ i k) (pC P) (fun i ρ => eqK τ ρ ∧ ∀ c, c < i → ρ.1 42 c = nI (coP P h c) ∧ ρ.1 43 c = nI (tiP P h c)) (fun σ9 v10 => some (σ9, ())) (fun n ρ hI => by
      show fX4_look_L2 (nI h) (n + 1) ρ (nI (pC P)) _ = _
      rw [fX4_look_L2, (hI.1.plan hC).2.1, if_pos (nI_le (by omega) (by omega))]) (fun n ρ i hi hI => by
      obtain ⟨q1, q2⟩ := hI
      have e1 : eqK τ (su ρ 42 i (nI (coP P h i))) := q1.trans (eqK.w (Or.inl rfl))
      refine ⟨su (su ρ 42 i (nI (coP P h i))) 43 i (nI (tiP P h i)), ⟨e1.trans (eqK.w (Or.inr rfl)), fun c hc => ?_⟩, ?_⟩
      · rw [su_11, su_11, su_11, su_11]
        by_cases z : c = i
        · rw [z, if_neg (by omega), if_pos ⟨rfl, rfl⟩, if_pos ⟨rfl, rfl⟩]
          exact ⟨rfl, rfl⟩
        · rw [if_neg (by omega), if_neg (by omega), if_neg (by omega), if_neg (by omega)]
          exact q2 c (by omega)
      · show fX4_look_L2 (nI h) (n + 1) ρ (nI i) _ = _
        rw [fX4_look_L2, (q1.plan hC).2.1, if_neg (nI_ge hi (by omega)), paysCo hP (q1.plan hC) hh hi, cl_s, wrC (show i < LC 42 by show i < 8; omega), holdsC hP (e1.plan hC) hh hi, cl_s, wrC (show i < LC 43 by show i < 8; omega), nI_1]) (pC P) 0 10000 τ (by omega) (by omega) ⟨eqK.rf τ, fun c hc => absurd hc (by omega)⟩
  obtain ⟨τ', ⟨q1, q2⟩, e⟩ := L
  exact ⟨τ', e, q1, q2⟩
theorem aheadC {τ : St} {P : Pl} (hP : PlanOk P) {h o c d : Nat} (hL : Lk τ P h) (ho : o < 4) (hc : c < pC P) (hd : d < c) : fX4_isAhead τ (nI o) (nI c) (nI d) = some (τ, if bet o (coP P h) (tiP P h) c d then 1 else 0) := by
  have h8 := hP.2.1
  have b1 := coP_b hP h hc
  have b2 := coP_b hP h (show d < pC P by omega)
  obtain ⟨c1, c2⟩ := hL c hc
  obtain ⟨d1, d2⟩ := hL d (by omega)
  unfold fX4_isAhead bet
  match o, ho with
  | 0, _ =>
    rw [if_pos (show nI 0 = (0 : Int32) from rfl), if_pos (nI_le (by omega) (by omega)), if_pos rfl]
    rfl
  | 1, _ =>
    rw [if_neg (show ¬ nI 1 = (0 : Int32) by decide), if_pos (show nI 1 = (1 : Int32) from rfl), rdC (show c < LC 42 by show c < 8; omega), c1, rdC (show d < LC 42 by show d < 8; omega), d1, if_neg (show ¬ 1 = 0 by omega), if_pos rfl]
    by_cases q : coP P h c < coP P h d
    · rw [if_neg (nI_ge q (by omega)), decide_eq_true q]
      rfl
    · rw [if_pos (nI_le (by omega) (by omega)), decide_eq_false q]
      rfl
  | 2, _ =>
    rw [if_neg (show ¬ nI 2 = (0 : Int32) by decide), if_neg (show ¬ nI 2 = (1 : Int32) by decide), if_pos (show nI 2 = (2 : Int32) from rfl), rdC (show c < LC 42 by show c < 8; omega), c1, rdC (show d < LC 42 by show d < 8; omega), d1, if_neg (show ¬ 2 = 0 by omega), if_neg (show ¬ 2 = 1 by omega), if_pos rfl]
    by_cases q : coP P h d < coP P h c
    · rw [if_neg (nI_ge q (by omega)), decide_eq_true q]
      rfl
    · rw [if_pos (nI_le (by omega) (by omega)), decide_eq_false q]
      rfl
  | 3, _ =>
    have m1 : tiP P h c * coP P h d ≤ 11 * 18 := Nat.mul_le_mul b1.2.2 b2.2.1
    have m2 : tiP P h d * coP P h c ≤ 11 * 18 := Nat.mul_le_mul b2.2.2 b1.2.1
    rw [if_neg (show ¬ nI 3 = (0 : Int32) by decide), if_neg (show ¬ nI 3 = (1 : Int32) by decide), if_neg (show ¬ nI 3 = (2 : Int32) by decide), rdC (show c < LC 43 by show c < 8; omega), c2, rdC (show d < LC 42 by show d < 8; omega), d1, rdC (show d < LC 43 by show d < 8; omega), d2, rdC (show c < LC 42 by show c < 8; omega), c1, pk_mul, pk_mul, if_neg (show ¬ 3 = 0 by omega), if_neg (show ¬ 3 = 1 by omega), if_neg (show ¬ 3 = 2 by omega)]
    by_cases q : tiP P h d * coP P h c < tiP P h c * coP P h d
    · rw [if_neg (nI_ge q (by omega)), decide_eq_true q]
      rfl
    · rw [if_pos (nI_le (by omega) (by omega)), decide_eq_false q]
      rfl
theorem sgnM (σ : St) {a b c d : Nat} (ha : a < 2 ^ 30) (hb : b < 2 ^ 30) (hd : d < c) (hc : c < 1000) : jn (some (σ, (1 : Int32))) (fun k4 => (if 0 < nI a - nI b then k4 else (if nI a - nI b = 0 then (if nI d ≤ nI c then some (σ, 0) else k4) else some (σ, 0)))) = some (σ, if b < a then 1 else 0) := by
  have e := pk_sub_toInt ha hb
  have z0 : (nI a - nI b = 0) ↔ (nI a - nI b).toInt = 0 := ⟨fun q => by rw [q]; rfl, fun q => Int32.toInt_inj.mp q⟩
  have z1 : (0 < nI a - nI b) ↔ 0 < (nI a - nI b).toInt := i_lt
  rw [jn_s]
  by_cases q : b < a
  · rw [if_pos q, if_pos (z1.mpr (by omega))]
  · rw [if_neg q, if_neg (fun w => q (by have := z1.mp w; omega)), if_pos (nI_le (by omega) (by omega)), ite_self]
theorem wantM {σ : St} {P : Pl} (hP : PlanOk P) (hM : PlM σ P) {h o c d : Nat} (hh : h < pH P) (ho : o < 4) (hc : c < pC P) (hd : d < c) : fX11_isWantedAhead σ (nI h) (nI c) (nI d) (nI o) = some (σ, if bet o (coP P h) (tiP P h) c d then 1 else 0) := by
  have h8 := hP.2.1
  have b1 := coP_b hP h hc
  have b2 := coP_b hP h (show d < pC P by omega)
  have pc := paysMo hP hM hh hc
  have pd' := paysMo hP hM hh (show d < pC P by omega)
  unfold fX11_isWantedAhead bet
  match o, ho with
  | 0, _ =>
    rw [jn_s, if_pos (show nI 0 = (0 : Int32) from rfl), if_pos rfl]
    have := sgnM σ (a := 0) (b := 0) (c := c) (d := d) (by omega) (by omega) hd (by omega)
    rw [show nI 0 - nI 0 = (0 : Int32) from rfl] at this
    exact this
  | 1, _ =>
    rw [jn_s, if_neg (show ¬ nI 1 = (0 : Int32) by decide), if_pos (show nI 1 = (1 : Int32) from rfl), pd', cl_s, pc, cl_s]
    refine (sgnM σ (a := coP P h d) (b := coP P h c) (by omega) (by omega) hd (by omega)).trans ?_
    rw [if_neg (show ¬ 1 = 0 by omega), if_pos rfl]
    by_cases q : coP P h c < coP P h d
    · rw [if_pos q, decide_eq_true q]
      rfl
    · rw [if_neg q, decide_eq_false q]
      rfl
  | 2, _ =>
    rw [jn_s, if_neg (show ¬ nI 2 = (0 : Int32) by decide), if_neg (show ¬ nI 2 = (1 : Int32) by decide), if_pos (show nI 2 = (2 : Int32) from rfl), pc, cl_s, pd', cl_s]
    refine (sgnM σ (a := coP P h c) (b := coP P h d) (by omega) (by omega) hd (by omega)).trans ?_
    rw [if_neg (show ¬ 2 = 0 by omega), if_neg (show ¬ 2 = 1 by omega), if_pos rfl]
    by_cases q : coP P h d < coP P h c
    · rw [if_pos q, decide_eq_true q]
      rfl
    · rw [if_neg q, decide_eq_false q]
      rfl
  | 3, _ =>
    have m1 : tiP P h c * coP P h d ≤ 11 * 18 := Nat.mul_le_mul b1.2.2 b2.2.1
    have m2 : tiP P h d * coP P h c ≤ 11 * 18 := Nat.mul_le_mul b2.2.2 b1.2.1
    rw [jn_s, if_neg (show ¬ nI 3 = (0 : Int32) by decide), if_neg (show ¬ nI 3 = (1 : Int32) by decide), if_neg (show ¬ nI 3 = (2 : Int32) by decide), holdsM hP hM hh hc, cl_s, pd', cl_s, holdsM hP hM hh (show d < pC P by omega), cl_s, pc, cl_s, pk_mul, pk_mul]
    refine (sgnM σ (a := tiP P h c * coP P h d) (b := tiP P h d * coP P h c) (by omega) (by omega) hd (by omega)).trans ?_
    rw [if_neg (show ¬ 3 = 0 by omega), if_neg (show ¬ 3 = 1 by omega), if_neg (show ¬ 3 = 2 by omega)]
    by_cases q : tiP P h d * coP P h c < tiP P h c * coP P h d
    · rw [if_pos q, decide_eq_true q]
      rfl
    · rw [if_neg q, decide_eq_false q]
      rfl
theorem pickC {τ : St} {P : Pl} (hP : PlanOk P) {h o S : Nat} (hL : Lk τ P h) (ho : o < 4) (hS : S < 2 ^ 31) : fX4_pick τ (nI (pC P)) (nI o) (nI S) = some (τ, nI ((pck o (coP P h) (tiP P h) (pC P) S).getD 0)) := by
  have h8 := hP.2.1
  have pks := fun i hi => (pk_some (o := o) (co := coP P h) (ti := tiP P h) (C := pC P) (S := S) (fun c hc => (coP_b hP h hc).1) i hi).1
  unfold fX4_pick
  rw [L_0]
  have L := jloop (fun n σ a i k2 => fX4_pick_L6 (nI (pC P)) (nI o) (nI S) n σ a i (fun σ a i => k2 σ a i)) (pC P) (fun i ρ b => ρ = τ ∧ b = encS (fo (pkF o (coP P h) (tiP P h) S) 0 i none)) (fun σ13 v14 v15 => some (σ13, (if nI 0 < v14 then v14 else nI 0))) (fun n ρ b hI => by
      show fX4_pick_L6 (nI (pC P)) (nI o) (nI S) (n + 1) ρ b (nI (pC P)) _ = _
      rw [fX4_pick_L6, if_pos (nI_le (by omega) (by omega))]) (fun n ρ b i hi hI => by
      obtain ⟨q1, q2⟩ := hI
      rw [q1, q2]
      have lt := pks i (by omega)
      refine ⟨τ, encS (pkF o (coP P h) (tiP P h) S (fo (pkF o (coP P h) (tiP P h) S) 0 i none) i), ⟨rfl, by rw [fo_succ, Nat.zero_add]⟩, ?_⟩
      revert lt
      generalize fo (pkF o (coP P h) (tiP P h) S) 0 i none = b0
      intro lt
      show fX4_pick_L6 (nI (pC P)) (nI o) (nI S) (n + 1) τ (encS b0) (nI i) _ = fX4_pick_L6 (nI (pC P)) (nI o) (nI S) n τ _ (nI (i + 1)) _
      rw [fX4_pick_L6, if_neg (nI_ge hi (by omega)), tbI hS (by omega), pv_s, jn_s, nI_1]
      unfold pkF
      cases S.testBit i
      · simp only [Bool.false_eq_true, if_false, if_true, o10, jn_s]
        cases b0 with
        | none =>
          rw [show encS none = -1 from rfl, if_pos (show (-1 : Int32) < 0 by decide)]
          rfl
        | some d =>
          have l := (lt d rfl).1
          rw [show encS (some d) = nI d from rfl, if_neg (nlt0 (by omega)), aheadC hP hL ho hi l, cl_s]
          simp only
          cases bet o (coP P h) (tiP P h) i d
          · rfl
          · rfl
      · simp only [if_true, o10, if_false]) (pC P) 0 10000 τ (-1) (by omega) (by omega) ⟨rfl, rfl⟩
  obtain ⟨ρ, b, ⟨q1, q2⟩, e⟩ := L
  have lt := pks (pC P) (by omega)
  refine Eq.trans e ?_
  rw [q1, q2]
  unfold pck
  revert lt
  generalize fo (pkF o (coP P h) (tiP P h) S) 0 (pC P) none = b0
  intro lt
  cases b0 with
  | none => rfl
  | some d =>
    have l := (lt d rfl).1
    show some (τ, if nI 0 < nI d then nI d else nI 0) = some (τ, nI d)
    by_cases q : 0 < d
    · rw [if_pos (nI_lt q (by omega))]
    · rw [if_neg (nI_nlt (by omega) (by omega)), show d = 0 by omega]
abbrev bk (P : Pl) (t : Tw) (h o l n : Nat) : T3 := itC o (coP P h) (tiP P h) (pC P) (owM t h (pC P)) l n
theorem basketC {τ : St} {P : Pl} {t : Tw} (hP : PlanOk P) (hC : PlC τ P) (ht : TwOk P t) (tC : TwC τ P t) {h o l : Nat} (hh : h < pH P) (ho : o < 4) (hl : l < 1000) : ∃ τ', fX4_basket τ (nI h) (nI o) (nI l) = some (τ', nI (bk P t h o l (pC P)).2.2) ∧ eqK τ τ' := by
  have h6 := hP.1
  have h8 := hP.2.1
  obtain ⟨τ', e1, e2, e3⟩ := lookC hP hC hh
  refine ⟨τ', ?_, e2⟩
  have hco : ∀ c, c < pC P → 1 ≤ coP P h c := fun c hc => (coP_b hP h hc).1
  have p256 : 2 ^ pC P ≤ 2 ^ 8 := Nat.pow_le_pow_right (by omega) h8
  have L : ∀ (m i f : Nat), i + m = pC P → m < f → fX4_basket_L28 (nI h) (nI o) (nI (pC P)) f τ' (nI (bk P t h o l i).2.1) (nI (bk P t h o l i).1) (nI (bk P t h o l i).2.2) (nI i) (fun σ18 v19 v20 v21 v22 => some (σ18, v21)) = some (τ', nI (bk P t h o l (pC P)).2.2) := by
    intro m
    induction m with
    | zero =>
      intro i f hi hf
      match f, hf with
      | f + 1, _ =>
        rw [fX4_basket_L28, if_pos (nI_le (by omega) (by omega)), show i = pC P by omega]
    | succ m ih =>
      intro i f hi hf
      match f, hf with
      | f + 1, hf =>
        have ih' := ih (i + 1) f (by omega) (by omega)
        obtain ⟨⟨s1, s2, s3, -, -⟩, -⟩ : sOk (coP P h) (pC P) l (bk P t h o l i) ∧ un (bk P t h o l i).1 (pC P) + i = pC P := itC_ok (o := o) (ti := tiP P h) (W := owM t h (pC P)) (l := l) hco i (by omega)
        obtain ⟨c, hp, hc⟩ : ∃ c, pck o (coP P h) (tiP P h) (pC P) (bk P t h o l i).1 = some c ∧ c < pC P := itC_pck (o := o) (ti := tiP P h) (W := owM t h (pC P)) (l := l) hco (n := i) (by omega)
        have en : bk P t h o l (i + 1) = stC o (coP P h) (tiP P h) (pC P) (owM t h (pC P)) (bk P t h o l i) := rfl
        rw [en] at ih'
        revert ih' s1 s2 s3 hp
        generalize bk P t h o l i = x
        intro ih' s1 s2 s3 hp
        have b1 := coP_b hP h hc
        have ob := owM_tb t h c (pC P)
        rw [decide_eq_true hc, Bool.true_and] at ob
        unfold stC at ih'
        rw [hp] at ih'
        simp only at ih'
        rw [fX4_basket_L28, if_neg (nI_ge (by omega) (by omega)), pickC hP e3 ho (by omega), cl_s, hp, Option.getD_some, hasC ht (e2.town tC) (by omega) (show c < 8 by omega), cl_s, jn_s, nI_1, orS (by omega)]
        by_cases w : t (7 + 8 * h + c) = 0
        · rw [decide_eq_false (by simp [w])] at ob
          rw [ob] at ih'
          simp only [Bool.false_eq_true, if_false] at ih'
          rw [if_pos (by rw [ow0]; exact w), rdC (show c < LC 42 by show c < 8; omega), (e3 c hc).1]
          by_cases y : x.2.1 < coP P h c
          · rw [if_pos y] at ih'
            rw [if_pos (nI_lt y (by omega))]
            exact ih'
          · rw [if_neg y] at ih'
            rw [if_neg (nI_nlt (by omega) (by omega)), rdC (show c < LC 42 by show c < 8; omega), (e3 c hc).1, pk_sub (by omega), orS (by omega)]
            exact ih'
        · rw [decide_eq_true w] at ob
          rw [ob] at ih'
          simp only [if_true] at ih'
          rw [if_neg (by rw [ow0]; exact w)]
          exact ih'
  unfold fX4_basket
  rw [e1, cl_s, hC.2.1, pv_s, L_0]
  exact L (pC P) 0 10000 (by omega) (by omega)
theorem PlM.w {σ : St} {P : Pl} {j : Nat} {v : Int32} (h4 : j ≠ 4) (h7 : j ≠ 7) (h : PlM σ P) : PlM (su σ 0 j v) P := by
  unfold PlM
  rw [show (su σ 0 j v).1 0 4 = σ.1 0 4 by rw [su_11, if_neg (by omega)], show (su σ 0 j v).1 0 7 = σ.1 0 7 by rw [su_11, if_neg (by omega)], su_o (j := 5) (by omega), su_o (j := 6) (by omega), su_o (j := 7) (by omega), su_o (j := 8) (by omega), su_o (j := 9) (by omega)]
  exact h
theorem su_su {σ : St} {k i : Nat} {v w : Int32} : su (su σ k i v) k i w = su σ k i w := by
  refine st_ext (fun a j => ?_) (fun _ _ => rfl)
  rw [su_11, su_11, su_11]
  by_cases q : a = k ∧ j = i
  · rw [if_pos q, if_pos q]
  · rw [if_neg q, if_neg q, if_neg q]
theorem su_at {σ : St} {k i : Nat} {v : Int32} : (su σ k i v).1 k i = v := by
  rw [su_11, if_pos ⟨rfl, rfl⟩]
theorem bestM {σ : St} {P : Pl} (hP : PlanOk P) (hM : PlM σ P) {h o G : Nat} (hh : h < pH P) (ho : o < 4) (hG : G < 2 ^ 31) (v5 v7 : Int32) (kk : St → Int32 → Int32 → Option (St × Int32)) : fX11_shops_L38 (nI h) (nI o) v5 (nI G) v7 10000 σ (-9) 0 kk = kk σ (encW (pck o (coP P h) (tiP P h) (pC P) G)) (nI (pC P)) := by
  have h8 := hP.2.1
  have pks := fun i hi => (pk_some (o := o) (co := coP P h) (ti := tiP P h) (C := pC P) (S := G) (fun c hc => (coP_b hP h hc).1) i hi).1
  rw [L_0]
  have L := jloop (fun n σ a i k2 => fX11_shops_L38 (nI h) (nI o) v5 (nI G) v7 n σ a i (fun σ a i => k2 σ a i)) (pC P) (fun i ρ b => ρ = σ ∧ b = encW (fo (pkF o (coP P h) (tiP P h) G) 0 i none)) kk (fun n ρ b hI => by
      show fX11_shops_L38 (nI h) (nI o) v5 (nI G) v7 (n + 1) ρ b (nI (pC P)) _ = _
      rw [fX11_shops_L38, hI.1, hM.2.1, if_pos (nI_le (by omega) (by omega))]) (fun n ρ b i hi hI => by
      obtain ⟨q1, q2⟩ := hI
      rw [q1, q2]
      have lt := pks i (by omega)
      refine ⟨σ, encW (pkF o (coP P h) (tiP P h) G (fo (pkF o (coP P h) (tiP P h) G) 0 i none) i), ⟨rfl, by rw [fo_succ, Nat.zero_add]⟩, ?_⟩
      revert lt
      generalize fo (pkF o (coP P h) (tiP P h) G) 0 i none = b0
      intro lt
      show fX11_shops_L38 (nI h) (nI o) v5 (nI G) v7 (n + 1) σ (encW b0) (nI i) _ = fX11_shops_L38 (nI h) (nI o) v5 (nI G) v7 n σ _ (nI (i + 1)) _
      rw [fX11_shops_L38, hM.2.1, if_neg (nI_ge hi (by omega)), hasN σ hG (by omega), cl_s, jn_s, jn_s, nI_1]
      unfold pkF
      cases G.testBit i
      · simp only [Bool.false_eq_true, if_false, if_true, jn_s]
        cases b0 with
        | none =>
          rw [if_pos (show encW none = -9 from rfl)]
          rfl
        | some d =>
          have l := (lt d rfl).1
          rw [show encW (some d) = nI d from rfl, if_neg (nI_nneg (by omega) (by decide)), wantM hP hM hh ho hi l, cl_s]
          simp only
          cases bet o (coP P h) (tiP P h) i d
          · rfl
          · rfl
      · simp only [if_true, o10, if_false]) (pC P) 0 10000 σ (-9) (by omega) (by omega) ⟨rfl, rfl⟩
  obtain ⟨ρ, b, ⟨q1, q2⟩, e⟩ := L
  refine Eq.trans e ?_
  rw [q1, q2]
  rfl
theorem shopsM {σ : St} {P : Pl} {t : Tw} (hP : PlanOk P) (hM : PlM σ P) (ht : TwOk P t) (tM : TwM (σ.1 10) t) {h o l : Nat} (hh : h < pH P) (ho : o < 4) (hl : l < 1000) : fX11_shops σ (nI h) (nI l) (nI o) = some (su σ 0 30 (nI (bk P t h o l (pC P)).2.1), nI (bk P t h o l (pC P)).2.2) := by
  have h6 := hP.1
  have h8 := hP.2.1
  have hco : ∀ c, c < pC P → 1 ≤ coP P h c := fun c hc => (coP_b hP h hc).1
  have p256 : 2 ^ pC P ≤ 2 ^ 8 := Nat.pow_le_pow_right (by omega) h8
  have wlt := owM_lt t h (pC P)
  have ends := itM_end (o := o) (ti := tiP P h) (W := owM t h (pC P)) (l := l) hco
  have Mok : ∀ i, (itM o (coP P h) (tiP P h) (pC P) (owM t h (pC P)) l i).1 < 2 ^ pC P ∧ (itM o (coP P h) (tiP P h) (pC P) (owM t h (pC P)) l i).2.1 ≤ l := by
    intro i
    induction i with
    | zero => exact ⟨wlt, Nat.le_refl l⟩
    | succ i ih =>
      show (stM o (coP P h) (tiP P h) (pC P) (itM o (coP P h) (tiP P h) (pC P) (owM t h (pC P)) l i)).1 < 2 ^ pC P ∧ (stM o (coP P h) (tiP P h) (pC P) (itM o (coP P h) (tiP P h) (pC P) (owM t h (pC P)) l i)).2.1 ≤ l
      revert ih
      generalize itM o (coP P h) (tiP P h) (pC P) (owM t h (pC P)) l i = x
      intro ih
      have pks := (pk_some (o := o) (co := coP P h) (ti := tiP P h) (C := pC P) (S := x.1) hco (pC P) (by omega)).1
      unfold stM
      cases hp : pck o (coP P h) (tiP P h) (pC P) x.1 with
      | none => exact ih
      | some c =>
        have lt := or_lt ih.1 (pks c hp).1
        simp only
        split
        · exact ⟨lt, ih.2⟩
        · exact ⟨lt, by show x.2.1 - coP P h c ≤ l; omega⟩
  have L : ∀ (m i f : Nat), i + m = pC P → m < f → fX11_shops_L22 (nI h) (nI o) f (su σ 0 30 (nI (itM o (coP P h) (tiP P h) (pC P) (owM t h (pC P)) l i).2.1)) (nI (itM o (coP P h) (tiP P h) (pC P) (owM t h (pC P)) l i).2.2) (nI (itM o (coP P h) (tiP P h) (pC P) (owM t h (pC P)) l i).1) (nI i) (fun σ34 v35 v36 v37 => some (σ34, v35)) = some (su σ 0 30 (nI (itM o (coP P h) (tiP P h) (pC P) (owM t h (pC P)) l (pC P)).2.1), nI (itM o (coP P h) (tiP P h) (pC P) (owM t h (pC P)) l (pC P)).2.2) := by
    intro m
    induction m with
    | zero =>
      intro i f hi hf
      match f, hf with
      | f + 1, _ =>
        rw [fX11_shops_L22, (PlM.w (j := 30) (by omega) (by omega) hM).2.1, if_pos (nI_le (by omega) (by omega)), show i = pC P by omega]
    | succ m ih =>
      intro i f hi hf
      match f, hf with
      | f + 1, hf =>
        have ih' := ih (i + 1) f (by omega) (by omega)
        obtain ⟨s1, s2⟩ := Mok i
        have en : itM o (coP P h) (tiP P h) (pC P) (owM t h (pC P)) l (i + 1) = stM o (coP P h) (tiP P h) (pC P) (itM o (coP P h) (tiP P h) (pC P) (owM t h (pC P)) l i) := rfl
        rw [en] at ih'
        revert ih' s1 s2
        generalize itM o (coP P h) (tiP P h) (pC P) (owM t h (pC P)) l i = x
        intro ih' s1 s2
        have pM : PlM (su σ 0 30 (nI x.2.1)) P := PlM.w (by omega) (by omega) hM
        have pks := (pk_some (o := o) (co := coP P h) (ti := tiP P h) (C := pC P) (S := x.1) hco (pC P) (by omega)).1
        unfold stM at ih'
        rw [fX11_shops_L22, pM.2.1, if_neg (nI_ge (by omega) (by omega)), bestM hP pM hh ho (by omega), jn_s, nI_1]
        cases hp : pck o (coP P h) (tiP P h) (pC P) x.1 with
        | none =>
          rw [hp] at ih'
          rw [if_pos (show encW none = -9 from rfl)]
          exact ih'
        | some c =>
          rw [hp] at ih'
          have hc := (pks c hp).1
          have b1 := coP_b hP h hc
          simp only at ih'
          rw [show encW (some c) = nI c from rfl, if_neg (nI_nneg (by omega) (by decide)), paysMo hP pM hh hc, cl_s, su_at]
          by_cases y : x.2.1 < coP P h c
          · rw [if_pos y] at ih'
            rw [if_pos (nI_lt y (by omega)), orS (by omega)]
            exact ih'
          · rw [if_neg y] at ih'
            rw [if_neg (nI_nlt (by omega) (by omega)), paysMo hP pM hh hc, cl_s, pt_s, su_su, pk_sub (by omega), orS (by omega), orS (by omega)]
            exact ih'
  unfold fX11_shops
  rw [setM hP hM ht rfl tM (show h < 6 by omega), cl_s, pt_s, owM_eq t h (pC P) h8, L_0]
  have := L (pC P) 0 10000 (by omega) (by omega)
  rw [ends] at this
  exact this
theorem costOfC {τ : St} {P : Pl} (hP : PlanOk P) (hC : PlC τ P) {h g : Nat} (hh : h < pH P) (hg : g < 2 ^ 31) : fX4_costOf τ (nI h) (nI g) = some (τ, nI (sm (coP P h) g (pC P))) := by
  have h8 := hP.2.1
  unfold fX4_costOf
  rw [L_0]
  have L := jloop (fun n σ a i k2 => fX4_costOf_L5 (nI h) (nI g) n σ a i (fun σ a i => k2 σ a i)) (pC P) (fun i ρ b => ρ = τ ∧ b = nI (sm (coP P h) g i)) (fun σ9 v10 v11 => some (σ9, v10)) (fun n ρ b hI => by
      show fX4_costOf_L5 (nI h) (nI g) (n + 1) ρ b (nI (pC P)) _ = _
      rw [fX4_costOf_L5, hI.1, hC.2.1, if_pos (nI_le (by omega) (by omega))]) (fun n ρ b i hi hI => by
      obtain ⟨q1, q2⟩ := hI
      rw [q1, q2]
      refine ⟨τ, nI (sm (coP P h) g i + (if g.testBit i then coP P h i else 0)), ⟨rfl, rfl⟩, ?_⟩
      show fX4_costOf_L5 (nI h) (nI g) (n + 1) τ (nI (sm (coP P h) g i)) (nI i) _ = fX4_costOf_L5 (nI h) (nI g) n τ _ (nI (i + 1)) _
      rw [fX4_costOf_L5, hC.2.1, if_neg (nI_ge hi (by omega)), tbI hg (by omega), jn_s, nI_1]
      cases g.testBit i
      · simp only [Bool.false_eq_true, if_false, if_true, Nat.add_zero]
      · simp only [if_true, o10, if_false]
        rw [paysCo hP hC hh hi, cl_s, nI_add]) (pC P) 0 10000 τ (nI 0) (by omega) (by omega) ⟨rfl, rfl⟩
  obtain ⟨ρ, b, ⟨q1, q2⟩, e⟩ := L
  rw [q1, q2] at e
  exact e
theorem Rel.shop {τ σ τ' : St} (h : Rel τ σ) (e : eqK τ τ') (v : Int32) : Rel τ' (su σ 0 30 v) := h.fr (fun k hk => e.1 k (by omega) (by omega)) e.2 (fun k a b c => su_o (by omega)) (fun j hj => by rw [su_11, if_neg (by omega)]) rfl
theorem s_shop (τ σ : St) (h : Rel τ σ) (a1 a2 : Int32) : ∃ (τ' σ' : St) (r : Int32), fX10_shop τ a1 a2 = some (τ', r) ∧ fX11_shop σ a1 a2 = some (σ', r) ∧ Rel τ' σ' := by
  obtain ⟨P, t, hP, hC, hM, ht, tC, tM⟩ := h.view
  have h6 := hP.1
  have h8 := hP.2.1
  unfold fX10_shop fX11_shop
  rcases ix_cases a1 (pH P) (by omega) with ⟨x, hx, rfl⟩ | hbad
  case inr =>
    rw [isHouseC_n hC hbad, isHouseM_n hP hM hbad]
    exact ⟨_, _, _, rfl, rfl, h⟩
  rw [isHouseC_y hP hC hx, isHouseM_y hP hM hx]
  simp only [cl_s, o10, if_false]
  by_cases hr : ((0 : Nat) : Int) ≤ a2.toInt ∧ a2.toInt ≤ (3 : Nat)
  case neg =>
    rw [in_out3 σ hr, cl_s, if_pos (show nI 0 = (0 : Int32) from rfl)]
    by_cases w : a2 < 0
    · rw [if_pos w]
      exact ⟨_, _, _, rfl, rfl, h⟩
    · rw [if_neg w, if_neg (fun q => hr (by rw [i_lt] at w; rw [i_lt] at q; have e1 : (0 : Int32).toInt = 0 := rfl; have e9 : (4 : Int32).toInt = 4 := rfl; omega))]
      exact ⟨_, _, _, rfl, rfl, h⟩
  obtain ⟨o, _, o3, rfl⟩ := between hr (by omega)
  have hu := ht.2.1 x hx
  have p256 : 2 ^ pC P ≤ 2 ^ 8 := Nat.pow_le_pow_right (by omega) h8
  obtain ⟨τ', e1, e2⟩ := basketC hP hC ht tC hx (show o < 4 by omega) (show t (1 + x) < 1000 by omega)
  obtain ⟨⟨s1, s2, s3, -, s5⟩, -⟩ : sOk (coP P x) (pC P) (t (1 + x)) (bk P t x o (t (1 + x)) (pC P)) ∧ un (bk P t x o (t (1 + x)) (pC P)).1 (pC P) + pC P = pC P := itC_ok (o := o) (co := coP P x) (ti := tiP P x) (C := pC P) (W := owM t x (pC P)) (l := t (1 + x)) (fun c hc => (coP_b hP x hc).1) (pC P) (by omega)
  rw [in_yes3 σ o3, cl_s, if_neg (show ¬ (1 : Int32) = 0 by decide), if_neg (nlt0 (by omega)), if_pos (show nI o < (4 : Int32) from nI_lt (b := 4) (by omega) (by omega)), rdC (show x < LC 33 by show x < 6; omega), tC.2.1 x hx, e1, cl_s, rdC (show x < LC 33 by show x < 6; omega), (e2.town tC).2.1 x hx, costOfC hP (e2.plan hC) hx (show (bk P t x o (t (1 + x)) (pC P)).2.2 < 2 ^ 31 by omega), cl_s, n_1p, rdM (show 1 + x < LM 10 by show _ < 55; omega), tM (1 + x) (by omega), shopsM hP hM ht tM hx (show o < 4 by omega) (show t (1 + x) < 1000 by omega), cl_s]
  simp only [fX11_answer, pt_s, cl_s]
  rw [su_at, pk_sub (by omega), show t (1 + x) - sm (coP P x) (bk P t x o (t (1 + x)) (pC P)).2.2 (pC P) = (bk P t x o (t (1 + x)) (pC P)).2.1 by omega]
  exact ⟨_, _, _, rfl, rfl, (h.shop e2 _).told _⟩
def popF (m : Nat) : Nat := m % 2 + m / 2 % 2 + m / 4 % 2 + m / 8 % 2 + m / 16 % 2 + m / 32 % 2 + m / 64 % 2 + m / 128 % 2
def bcv (x : Int32) : Int32 := match fJ6_bitCount_0f7a4 (fun _ _ => 0, fun _ _ => 0) x with
  | some p => p.2
  | none => 0
theorem bcv_pop : ∀ m : Fin 256, bcv (nI m.1) = nI (popF m.1) := by decide +kernel
theorem bitsC (σ : St) {m : Nat} (hm : m < 256) : fJ6_bitCount_0f7a4 σ (nI m) = some (σ, nI (popF m)) := by
  rw [show fJ6_bitCount_0f7a4 σ (nI m) = some (σ, bcv (nI m)) from rfl, bcv_pop ⟨m, hm⟩]
theorem pop_st : ∀ m : Fin 256, m.1 ≠ 0 → nI m.1 &&& (nI m.1 - 1) = nI (m.1 &&& (m.1 - 1)) ∧ popF (m.1 &&& (m.1 - 1)) + 1 = popF m.1 := by decide +kernel
theorem bitsM (σ : St) {m : Nat} (hm : m < 256) : fX11_bits σ (nI m) = some (σ, nI (popF m)) := by
  have L : ∀ (k m f c : Nat), m ≤ k → m < 256 → k < f → fX11_bits_L4 f σ (nI c) (nI m) (fun σ4 v5 v6 => some (σ4, v5)) = some (σ, nI (c + popF m)) := by
    intro k
    induction k with
    | zero =>
      intro m f c h1 h2 h3
      match f, h3 with
      | f + 1, _ =>
        rw [fX11_bits_L4, show m = 0 by omega, if_pos (show nI 0 = (0 : Int32) from rfl)]
        rfl
    | succ k ih =>
      intro m f c h1 h2 h3
      match f, h3 with
      | f + 1, h3 =>
        rw [fX11_bits_L4]
        by_cases z : m = 0
        · rw [z, if_pos (show nI 0 = (0 : Int32) from rfl)]
          rfl
        · have p := pop_st ⟨m, h2⟩ z
          have le : m &&& (m - 1) ≤ m - 1 := Nat.and_le_right
          have p2 : popF (m &&& (m - 1)) + 1 = popF m := p.2
          rw [if_neg (nI_ne0 (by omega) (by omega)), show nI m &&& (nI m - 1) = nI (m &&& (m - 1)) from p.1, nI_1, ih (m &&& (m - 1)) f (c + 1) (by omega) (by omega) (by omega), show c + 1 + popF (m &&& (m - 1)) = c + popF m by omega]
  have := L m m 10000 0 (by omega) hm (by omega)
  rw [Nat.zero_add] at this
  exact this
theorem popF_le (m : Nat) : popF m ≤ 8 := by
  unfold popF
  omega
theorem bestS {τ σ : St} {P : Pl} {t : Tw} (hR : Rel τ σ) (hP : PlanOk P) (hC : PlC τ P) (hM : PlM σ P) (ht : TwOk P t) (tC : TwC τ P t) (tM : TwM (σ.1 10) t) {h : Nat} (hh : h < pH P) : ∀ (m i f g : Nat) (τ1 : St) (x b c : Int32), i + m = 4 → m < f → m < g → eqK τ τ1 → ∃ (τ' σ' : St) (r : Int32), fX10_best_L20 (nI h) f τ1 b c (nI i) (fun σ15 v16 v17 v18 => pt (su σ15 0 11 v17) (fun σ19 => some (σ19, v16))) = some (τ', r) ∧ fX11_best_L17 (nI h) g (su σ 0 30 x) b c (nI i) (fun σ16 v17 v18 v19 => cl (fX11_answer σ16 v17 v18) (fun σ20 r21 => some (σ20, r21))) = some (σ', r) ∧ Rel τ' σ' := by
  have h6 := hP.1
  have h8 := hP.2.1
  have hu := ht.2.1 h hh
  have p256 : 2 ^ pC P ≤ 2 ^ 8 := Nat.pow_le_pow_right (by omega) h8
  intro m
  induction m with
  | zero =>
    intro i f g τ1 x b c hi hf hg e
    match f, g, hf, hg with
    | f + 1, g + 1, _, _ =>
      rw [fX10_best_L20, fX11_best_L17, if_pos (show (4 : Int32) ≤ nI i from nI_le (a := 4) (by omega) (by omega)), if_pos (show (4 : Int32) ≤ nI i from nI_le (a := 4) (by omega) (by omega))]
      simp only [fX11_answer, pt_s, cl_s]
      exact ⟨_, _, _, rfl, rfl, (hR.shop e _).told _⟩
  | succ m ih =>
    intro i f g τ1 x b c hi hf hg e
    match f, g, hf, hg with
    | f + 1, g + 1, hf, hg =>
      obtain ⟨τ2, e1, e2⟩ := basketC hP (e.plan hC) ht (e.town tC) hh (show i < 4 by omega) (show t (1 + h) < 1000 by omega)
      obtain ⟨⟨-, -, s3, -, -⟩, -⟩ : sOk (coP P h) (pC P) (t (1 + h)) (bk P t h i (t (1 + h)) (pC P)) ∧ un (bk P t h i (t (1 + h)) (pC P)).1 (pC P) + pC P = pC P := itC_ok (o := i) (co := coP P h) (ti := tiP P h) (C := pC P) (W := owM t h (pC P)) (l := t (1 + h)) (fun c hc => (coP_b hP h hc).1) (pC P) (by omega)
      have tM' : TwM ((su σ 0 30 x).1 10) t := by
        rw [su_o (by omega)]
        exact tM
      rw [fX10_best_L20, fX11_best_L17, if_neg (show ¬ (4 : Int32) ≤ nI i from nI_ge (b := 4) (by omega) (by omega)), if_neg (show ¬ (4 : Int32) ≤ nI i from nI_ge (b := 4) (by omega) (by omega)), rdC (show h < LC 33 by show h < 6; omega), (e.town tC).2.1 h hh, e1, cl_s, bitsC τ2 (show (bk P t h i (t (1 + h)) (pC P)).2.2 < 256 by omega), cl_s, jn_s, n_1p, rdM (show 1 + h < LM 10 by show _ < 55; omega), tM' (1 + h) (by omega), shopsM hP (PlM.w (by omega) (by omega) hM) ht tM' hh (show i < 4 by omega) (show t (1 + h) < 1000 by omega), cl_s, bitsM _ (show (bk P t h i (t (1 + h)) (pC P)).2.2 < 256 by omega), cl_s, pv_s, pv_s, su_su, nI_1]
      by_cases q : nI (popF (bk P t h i (t (1 + h)) (pC P)).2.2) ≤ c
      · rw [if_pos q, if_pos q, if_pos q]
        exact ih (i + 1) f g τ2 _ b c (by omega) (by omega) (by omega) (e.trans e2)
      · rw [if_neg q, if_neg q, if_neg q]
        exact ih (i + 1) f g τ2 _ _ _ (by omega) (by omega) (by omega) (e.trans e2)
theorem s_best (τ σ : St) (h : Rel τ σ) (a1 : Int32) : ∃ (τ' σ' : St) (r : Int32), fX10_best τ a1 = some (τ', r) ∧ fX11_best σ a1 = some (σ', r) ∧ Rel τ' σ' := by
  obtain ⟨P, t, hP, hC, hM, ht, tC, tM⟩ := h.view
  have h6 := hP.1
  unfold fX10_best fX11_best
  rcases ix_cases a1 (pH P) (by omega) with ⟨x, hx, rfl⟩ | hbad
  case inr =>
    rw [isHouseC_n hC hbad, isHouseM_n hP hM hbad]
    exact ⟨_, _, _, rfl, rfl, h⟩
  rw [isHouseC_y hP hC hx, isHouseM_y hP hM hx]
  simp only [cl_s, o10, if_false]
  rw [L_0]
  have e0 : su σ 0 30 (σ.1 0 30) = σ := by
    refine st_ext (fun a j => ?_) (fun _ _ => rfl)
    rw [su_11]
    by_cases q : a = 0 ∧ j = 30
    · rw [if_pos q, q.1, q.2]
    · rw [if_neg q]
  have := bestS h hP hC hM ht tC tM hx 4 0 10000 10000 τ (σ.1 0 30) (nI 0) (-1) (by omega) (by omega) (by omega) (eqK.rf τ)
  rw [e0] at this
  exact this
