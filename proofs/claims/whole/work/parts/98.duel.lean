/-! duel: pure, and the component's side -/
def opG (g : Bool) (a x : Nat) : Nat := if g then (if x ≤ a then a else x) else (if x ≤ a then x else a)
def opC (g : Bool) (a x : Nat) : Nat := if g then (if a < x then x else a) else (if x < a then x else a)
def leG (g : Bool) (a b : Nat) : Prop := if g then a ≤ b else b ≤ a
theorem leG_rf (g : Bool) (a : Nat) : leG g a a := by
  cases g <;> exact Nat.le_refl a
theorem leG_tr {g : Bool} {a b c : Nat} (h : leG g a b) (k : leG g b c) : leG g a c := by
  cases g
  · exact Nat.le_trans (show c ≤ b from k) (show b ≤ a from h)
  · exact Nat.le_trans (show a ≤ b from h) (show b ≤ c from k)
theorem leG_as {g : Bool} {a b : Nat} (h : leG g a b) (k : leG g b a) : a = b := by
  cases g
  · exact Nat.le_antisymm (show a ≤ b from k) (show b ≤ a from h)
  · exact Nat.le_antisymm (show a ≤ b from h) (show b ≤ a from k)
theorem opG_p (g : Bool) (a x : Nat) : leG g a (opG g a x) ∧ leG g x (opG g a x) ∧ (opG g a x = a ∨ opG g a x = x) := by
  cases g
  · simp only [leG, opG, Bool.false_eq_true, if_false]
    split <;> omega
  · simp only [leG, opG, if_true]
    split <;> omega
theorem opC_p (g : Bool) (a x : Nat) : leG g a (opC g a x) ∧ leG g x (opC g a x) ∧ (opC g a x = a ∨ opC g a x = x) := by
  cases g
  · simp only [leG, opC, Bool.false_eq_true, if_false]
    split <;> omega
  · simp only [leG, opC, if_true]
    split <;> omega
def bst (g : Bool) (f : Nat → Nat) : Nat → Nat
  | 0 => f 0
  | j + 1 => opG g (bst g f j) (f (j + 1))
theorem bst_p (g : Bool) (f : Nat → Nat) : ∀ j, (∀ e, e ≤ j → leG g (f e) (bst g f j)) ∧ ∃ e, e ≤ j ∧ bst g f j = f e
  | 0 => ⟨fun e he => by
      rw [show e = 0 by omega]
      exact leG_rf g _, 0, Nat.le_refl 0, rfl⟩
  | j + 1 => by
    obtain ⟨i1, e0, i2, i3⟩ := bst_p g f j
    obtain ⟨o1, o2, o3⟩ := opG_p g (bst g f j) (f (j + 1))
    refine ⟨fun e he => ?_, ?_⟩
    · by_cases z : e = j + 1
      · rw [z]
        exact o2
      · exact leG_tr (i1 e (by omega)) o1
    · rcases o3 with o3 | o3
      · exact ⟨e0, by omega, o3.trans i3⟩
      · exact ⟨j + 1, Nat.le_refl _, o3⟩
theorem bst_congr {g : Bool} {f f' : Nat → Nat} : ∀ j, (∀ e, e ≤ j → f e = f' e) → bst g f j = bst g f' j
  | 0, h => h 0 (Nat.le_refl 0)
  | j + 1, h => by
    show opG g (bst g f j) (f (j + 1)) = opG g (bst g f' j) (f' (j + 1))
    rw [bst_congr j (fun e he => h e (by omega)), h (j + 1) (Nat.le_refl _)]
def cF (g : Bool) (f : Nat → Nat) (ok : Nat → Bool) (r h : Nat) : Nat := if ok h then opC g r (f h) else r
theorem cF_p (g : Bool) (f : Nat → Nat) (ok : Nat → Bool) (H : Nat) : ∀ j, leG g (f H) (fo (cF g f ok) 0 j (f H)) ∧ (∀ h, h < j → ok h = true → leG g (f h) (fo (cF g f ok) 0 j (f H))) ∧ ∃ e, (e = H ∨ e < j) ∧ fo (cF g f ok) 0 j (f H) = f e
  | 0 => ⟨leG_rf g _, fun h hh => absurd hh (by omega), H, Or.inl rfl, rfl⟩
  | j + 1 => by
    obtain ⟨i1, i2, e0, i3, i4⟩ := cF_p g f ok H j
    rw [fo_succ, Nat.zero_add]
    revert i1 i2 i4
    generalize fo (cF g f ok) 0 j (f H) = r
    intro i1 i2 i4
    unfold cF
    by_cases q : ok j = true
    · rw [if_pos q]
      obtain ⟨o1, o2, o3⟩ := opC_p g r (f j)
      refine ⟨leG_tr i1 o1, fun h hh ho => ?_, ?_⟩
      · by_cases z : h = j
        · rw [z]
          exact o2
        · exact leG_tr (i2 h (by omega) ho) o1
      · rcases o3 with o3 | o3
        · exact ⟨e0, by omega, o3.trans i4⟩
        · exact ⟨j, by omega, o3⟩
    · rw [if_neg q]
      refine ⟨i1, fun h hh ho => ?_, e0, by omega, i4⟩
      by_cases z : h = j
      · rw [z] at ho
        exact absurd ho q
      · exact i2 h (by omega) ho
theorem cF_bst {g : Bool} {f : Nat → Nat} {ok : Nat → Bool} {H : Nat} (h : ∀ e, e < H → ¬ ok e = true → f e = f H) : fo (cF g f ok) 0 H (f H) = bst g f H := by
  obtain ⟨i1, i2, e0, i3, i4⟩ := cF_p g f ok H H
  obtain ⟨j1, e1, j2, j3⟩ := bst_p g f H
  refine leG_as (g := g) ?_ ?_
  · rw [i4]
    exact j1 e0 (by omega)
  · rw [j3]
    by_cases z : e1 = H
    · rw [z]
      exact i1
    · by_cases o : ok e1 = true
      · exact i2 e1 (by omega) o
      · rw [h e1 (by omega) o]
        exact i1
def act (H : Nat) (g : Bool) (e : Nat) (u : Nat → Nat) : Nat → Nat := fun h => if h = e ∧ e < H then (if g then min 99 (u e + 1) else u e - 1) else u h
theorem act_no {H : Nat} {g : Bool} {e : Nat} {u : Nat → Nat} (h : ¬ e < H) : act H g e u = u := funext fun x => if_neg (fun q => h q.2)
theorem act_le {H : Nat} {g : Bool} {e : Nat} {u : Nat → Nat} {h : Nat} (hh : h < H) (hu : ∀ h, h < H → u h ≤ 99) : act H g e u h ≤ 99 := by
  unfold act
  by_cases q : h = e ∧ e < H
  · rw [if_pos q]
    have := hu e q.2
    cases g
    · simp only [Bool.false_eq_true, if_false]
      omega
    · simp only [if_true]
      omega
  · rw [if_neg q]
    exact hu h hh
def sG (G : Nat → Nat → Nat) (u : Nat → Nat) : Nat → Nat
  | 0 => 0
  | m + 1 => sG G u m + G m (u m)
theorem sG_le {G : Nat → Nat → Nat} (hG : ∀ h v, G h v ≤ 8) (u : Nat → Nat) : ∀ m, sG G u m ≤ 8 * m
  | 0 => Nat.le_refl 0
  | m + 1 => by
    have a := sG_le hG u m
    have b := hG m (u m)
    show sG G u m + G m (u m) ≤ 8 * (m + 1)
    omega
theorem sG_congr {G : Nat → Nat → Nat} {u v : Nat → Nat} : ∀ m, (∀ h, h < m → u h = v h) → sG G u m = sG G v m
  | 0, _ => rfl
  | m + 1, h => by
    show sG G u m + G m (u m) = sG G v m + G m (v m)
    rw [sG_congr m (fun x hx => h x (by omega)), h m (by omega)]
theorem sG_upd {G : Nat → Nat → Nat} {u v : Nat → Nat} {e : Nat} (h : ∀ x, x ≠ e → v x = u x) : ∀ m, e < m → sG G v m + G e (u e) = sG G u m + G e (v e) ∧ G e (u e) ≤ sG G u m
  | 0, he => absurd he (by omega)
  | m + 1, he => by
    by_cases z : e = m
    · have a : sG G v m = sG G u m := sG_congr m (fun x hx => h x (by omega))
      show sG G v m + G m (v m) + G e (u e) = sG G u m + G m (u m) + G e (v e) ∧ G e (u e) ≤ sG G u m + G m (u m)
      rw [z] at *
      omega
    · obtain ⟨a, b⟩ := sG_upd (G := G) h m (by omega)
      have c : G m (v m) = G m (u m) := by rw [h m (by omega)]
      show sG G v m + G m (v m) + G e (u e) = sG G u m + G m (u m) + G e (v e) ∧ G e (u e) ≤ sG G u m + G m (u m)
      omega
def val (G : Nat → Nat → Nat) (H : Nat) : Nat → Bool → (Nat → Nat) → Nat
  | 0, _, u => sG G u H
  | m + 1, g, u => bst g (fun e => val G H m (!g) (act H g e u)) H
theorem val_le {G : Nat → Nat → Nat} (hG : ∀ h v, G h v ≤ 8) (H : Nat) : ∀ m g u, val G H m g u ≤ 8 * H
  | 0, _, u => sG_le hG u H
  | m + 1, g, u => by
    obtain ⟨-, e, -, h⟩ := bst_p g (fun e => val G H m (!g) (act H g e u)) H
    show bst g (fun e => val G H m (!g) (act H g e u)) H ≤ 8 * H
    rw [h]
    exact val_le hG H m (!g) _
-- the component
theorem i32a (x y z : Int32) : x + (y - z) = x + y - z := by
  rw [Int32.sub_eq_add_neg, Int32.sub_eq_add_neg, Int32.add_assoc]
theorem i32s (x y z : Int32) : x - y + z = x + z - y := by
  rw [Int32.sub_eq_add_neg, Int32.sub_eq_add_neg, Int32.add_assoc, Int32.add_comm (-y), ← Int32.add_assoc]
theorem i32t (x y : Int32) : x + (y - x) = y := by
  rw [i32a, Int32.add_comm, Int32.add_sub_cancel]
def Gn (P : Pl) (t : Tw) (h v : Nat) : Nat := popF (bk P t h 1 v (pC P)).2.2
theorem Gn_le (P : Pl) (t : Tw) (h v : Nat) : Gn P t h v ≤ 8 := popF_le _
def gv (P : Pl) (t : Tw) (n h j : Nat) : Int32 := if n ≤ t (1 + h) + j ∧ t (1 + h) + j ≤ 99 + n then nI (Gn P t h (t (1 + h) + j - n)) else 0
theorem plan_of {τ τ' : St} (h : ∀ k, 25 ≤ k → k < 35 → τ'.1 k = τ.1 k) {P : Pl} (hC : PlC τ P) : PlC τ' P := by
  unfold PlC
  rw [h 26 (by omega) (by omega), h 31 (by omega) (by omega), h 32 (by omega) (by omega), h 29 (by omega) (by omega), h 30 (by omega) (by omega), h 28 (by omega) (by omega), h 27 (by omega) (by omega)]
  exact hC
theorem town_of {τ τ' : St} (h : ∀ k, 25 ≤ k → k < 35 → τ'.1 k = τ.1 k) {P : Pl} {t : Tw} (tC : TwC τ P t) : TwC τ' P t := by
  unfold TwC
  rw [h 25 (by omega) (by omega), h 33 (by omega) (by omega), h 34 (by omega) (by omega)]
  exact tC
theorem bk_256 {P : Pl} {t : Tw} (hP : PlanOk P) (h o l : Nat) : (bk P t h o l (pC P)).2.2 < 256 := by
  have h8 := hP.2.1
  have p256 : 2 ^ pC P ≤ 2 ^ 8 := Nat.pow_le_pow_right (by omega) h8
  obtain ⟨⟨-, -, s3, -, -⟩, -⟩ : sOk (coP P h) (pC P) l (bk P t h o l (pC P)) ∧ un (bk P t h o l (pC P)).1 (pC P) + pC P = pC P := itC_ok (o := o) (co := coP P h) (ti := tiP P h) (C := pC P) (W := owM t h (pC P)) (l := l) (fun c hc => (coP_b hP h hc).1) (pC P) (by omega)
  omega
theorem gainC {τ : St} {P : Pl} {t : Tw} (hP : PlanOk P) (hC : PlC τ P) (ht : TwOk P t) (tC : TwC τ P t) {h j n : Nat} (hh : h < pH P) (hn : n ≤ 3) (hj : j ≤ 2 * n) : ∃ τ', fX4_gainWith τ (nI h) (nI j - nI n) = some (τ', gv P t n h j) ∧ eqK τ τ' := by
  have h6 := hP.1
  have hu := ht.2.1 h hh
  have z0 : (0 : Int32).toInt = 0 := rfl
  have z99 : (99 : Int32).toInt = 99 := rfl
  have eI := pk_sub_toInt (a := t (1 + h) + j) (b := n) (by omega) (by omega)
  unfold fX4_gainWith gv
  rw [rdC (show h < LC 33 by show h < 6; omega), tC.2.1 h hh, i32a, nI_add]
  by_cases q : n ≤ t (1 + h) + j ∧ t (1 + h) + j ≤ 99 + n
  · rw [if_pos q, pk_sub q.1]
    obtain ⟨τ', e1, e2⟩ := basketC hP hC ht tC hh (show 1 < 4 by omega) (show t (1 + h) + j - n < 1000 by omega)
    refine ⟨τ', ?_, e2⟩
    unfold fX4_isPurse
    rw [if_neg (nlt0 (by omega)), if_neg (show ¬ (99 : Int32) < nI (t (1 + h) + j - n) from nI_nlt (a := 99) (by omega) (by omega)), cl_s, if_neg (show ¬ (1 : Int32) = 0 by decide), show fX4_basket τ (nI h) 1 (nI (t (1 + h) + j - n)) = _ from e1, cl_s, bitsC τ' (bk_256 hP h 1 _), cl_s]
    rfl
  · rw [if_neg q]
    refine ⟨τ, ?_, eqK.rf τ⟩
    unfold fX4_isPurse
    by_cases w : t (1 + h) + j < n
    · rw [if_pos (by rw [i_lt, eI, z0]; omega), cl_s, if_pos rfl]
    · rw [if_neg (by rw [i_lt, eI, z0]; omega), if_pos (by rw [i_lt, eI, z99]; omega), cl_s, if_pos rfl]
theorem slotC (τ : St) {h j n : Nat} (hn : n ≤ 7 * h + 3 + j) : fX4_slot τ (nI h) (nI j - nI n) = some (τ, nI (7 * h + 3 + j - n)) := by
  unfold fX4_slot
  rw [show ((nI h * 7) + (nI j - nI n)) + 3 = nI (7 * h + 3 + j - n) by
    rw [show (7 : Int32) = nI 7 from rfl, show (3 : Int32) = nI 3 from rfl, pk_mul, i32a, i32s, nI_add, nI_add, pk_sub (by omega), show h * 7 + j + 3 - n = 7 * h + 3 + j - n by omega]]
theorem slot0 (τ : St) {h : Nat} : fX4_slot τ (nI h) 0 = some (τ, nI (7 * h + 3)) := by
  unfold fX4_slot
  rw [show ((nI h * 7) + 0) + 3 = nI (7 * h + 3) by
    rw [show (7 : Int32) = nI 7 from rfl, show (3 : Int32) = nI 3 from rfl, pk_mul, Int32.add_zero, nI_add, show h * 7 + 3 = 7 * h + 3 by omega]]
def eqI (h : Nat) (τ τ' : St) : Prop := (∀ k, k ≠ 42 → k ≠ 43 → k ≠ 44 → τ'.1 k = τ.1 k) ∧ τ'.2 = τ.2 ∧ ∀ q, q < 7 * h → τ'.1 44 q = τ.1 44 q
theorem gainsC {τ : St} {P : Pl} {t : Tw} (hP : PlanOk P) (hC : PlC τ P) (ht : TwOk P t) (tC : TwC τ P t) {h n : Nat} (hh : h < pH P) (hn : n ≤ 3) (v2 : Int32) (kk : St → Int32 → Option (St × Int32)) : ∃ τ', eqI h τ τ' ∧ (∀ i, i ≤ 2 * n → τ'.1 44 (7 * h + 3 + i - n) = gv P t n h i) ∧ fX4_duelOf_L29 (nI n) v2 (nI h) 10000 τ (-nI n) kk = kk τ' (nI (2 * n + 1) - nI n) := by
  have h6 := hP.1
  have L : ∀ (m j f : Nat) (ρ : St), j + m = 2 * n + 1 → m < f → eqI h τ ρ → (∀ i, i < j → ρ.1 44 (7 * h + 3 + i - n) = gv P t n h i) → ∃ τ', eqI h τ τ' ∧ (∀ i, i < 2 * n + 1 → τ'.1 44 (7 * h + 3 + i - n) = gv P t n h i) ∧ fX4_duelOf_L29 (nI n) v2 (nI h) f ρ (nI j - nI n) kk = kk τ' (nI (2 * n + 1) - nI n) := by
    intro m
    induction m with
    | zero =>
      intro j f ρ hj hf q1 q2
      rw [show j = 2 * n + 1 by omega] at q2 ⊢
      match f, hf with
      | f + 1, _ =>
        refine ⟨ρ, q1, q2, ?_⟩
        rw [fX4_duelOf_L29, if_pos (by rw [i_lt, nI_toInt (by omega), pk_sub_toInt (by omega) (by omega)]; omega)]
    | succ m ih =>
      intro j f ρ hj hf q1 q2
      match f, hf with
      | f + 1, hf =>
        have kC : ∀ k, 25 ≤ k → k < 35 → ρ.1 k = τ.1 k := fun k a b => q1.1 k (by omega) (by omega) (by omega)
        obtain ⟨ρ1, g1, g2⟩ := gainC hP (plan_of kC hC) ht (town_of kC tC) hh hn (show j ≤ 2 * n by omega)
        have e44 : ρ1.1 44 = ρ.1 44 := g2.1 44 (by omega) (by omega)
        obtain ⟨τ', r1, r2, r3⟩ := ih (j + 1) f (su ρ1 44 (7 * h + 3 + j - n) (gv P t n h j)) (by omega) (by omega) ⟨fun k a b c => by
            rw [su_o c, g2.1 k a b, q1.1 k a b c], g2.2.trans q1.2.1, fun q hq => by
            rw [su_11, if_neg (by omega), e44, q1.2.2 q hq]⟩ (fun i hi => by
            rw [su_11]
            by_cases z : i = j
            · rw [z, if_pos ⟨rfl, rfl⟩]
            · rw [if_neg (by omega), e44, q2 i (by omega)])
        refine ⟨τ', r1, r2, ?_⟩
        rw [fX4_duelOf_L29, if_neg (by rw [i_lt, nI_toInt (by omega), pk_sub_toInt (by omega) (by omega)]; omega), slotC ρ (by omega), cl_s, g1, cl_s, wrC (show 7 * h + 3 + j - n < LC 44 by show _ < 42; omega), show nI j - nI n + 1 = nI (j + 1) - nI n by rw [← nI_1, i32d]]
        exact r3
  obtain ⟨τ', r1, r2, r3⟩ := L (2 * n + 1) 0 10000 τ (by omega) (by omega) ⟨fun _ _ _ _ => rfl, rfl, fun _ _ => rfl⟩ (fun i hi => absurd hi (by omega))
  refine ⟨τ', r1, fun i hi => r2 i (by omega), ?_⟩
  rw [show -nI n = nI 0 - nI n from (Int32.zero_sub _).symm]
  exact r3
def Tb (τ : St) (P : Pl) (t : Tw) (n H : Nat) : Prop := ∀ h i, h < H → i ≤ 2 * n → τ.1 44 (7 * h + 3 + i - n) = gv P t n h i
def eqL (τ τ' : St) : Prop := (∀ k, k < 42 ∨ 45 < k → τ'.1 k = τ.1 k) ∧ τ'.2 = τ.2
abbrev u0 (t : Tw) (h : Nat) : Nat := t (1 + h)
theorem duelIC {τ : St} {P : Pl} {t : Tw} (hP : PlanOk P) (hC : PlC τ P) (ht : TwOk P t) (tC : TwC τ P t) {n : Nat} (hn : n ≤ 3) (kk : St → Int32 → Int32 → Option (St × Int32)) : ∃ τ', eqL τ τ' ∧ Tb τ' P t n (pH P) ∧ (∀ h, h < pH P → τ'.1 45 h = 0) ∧ fX4_duelOf_L5 (nI n) 10000 τ 0 0 kk = kk τ' (nI (sG (Gn P t) (u0 t) (pH P))) (nI (pH P)) := by
  have h6 := hP.1
  have L := jloop (fun n' σ a i k2 => fX4_duelOf_L5 (nI n) n' σ a i (fun σ a i => k2 σ a i)) (pH P) (fun i ρ b => (eqL τ ρ ∧ Tb ρ P t n i ∧ ∀ h, h < i → ρ.1 45 h = 0) ∧ b = nI (sG (Gn P t) (u0 t) i)) kk (fun n' ρ b hI => by
      show fX4_duelOf_L5 (nI n) (n' + 1) ρ b (nI (pH P)) kk = _
      have kC : ∀ k, 25 ≤ k → k < 35 → ρ.1 k = τ.1 k := fun k a b => hI.1.1.1 k (by omega)
      rw [fX4_duelOf_L5, (plan_of kC hC).1, if_pos (nI_le (by omega) (by omega))]) (fun n' ρ b i hi hI => by
      obtain ⟨⟨q1, q2, q3⟩, q4⟩ := hI
      rw [q4]
      have hu := ht.2.1 i hi
      have kC : ∀ k, 25 ≤ k → k < 35 → ρ.1 k = τ.1 k := fun k a b => q1.1 k (by omega)
      have kC1 : ∀ k, 25 ≤ k → k < 35 → (su ρ 45 i 0).1 k = τ.1 k := fun k a b => (su_o (by omega)).trans (kC k a b)
      obtain ⟨ρ1, r1, r2, r3⟩ := gainsC (τ := su ρ 45 i 0) hP (plan_of kC1 hC) ht (town_of kC1 tC) hi hn (nI (sG (Gn P t) (u0 t) i)) (fun σ12 v13 => cl (fX4_slot σ12 (nI i) 0) (fun σ14 r15 => rd LC σ14 44 r15 (fun x16 => fX4_duelOf_L5 (nI n) n' σ14 (nI (sG (Gn P t) (u0 t) i) + x16) (nI i + 1) kk)))
      have gz : gv P t n i n = nI (Gn P t i (t (1 + i))) := by
        unfold gv
        rw [if_pos (by omega), Nat.add_sub_cancel]
      refine ⟨ρ1, nI (sG (Gn P t) (u0 t) i + Gn P t i (t (1 + i))), ⟨⟨⟨fun k hk => ?_, ?_⟩, fun h j hh hj => ?_, fun h hh => ?_⟩, rfl⟩, ?_⟩
      · rw [r1.1 k (by omega) (by omega) (by omega), su_o (by omega), q1.1 k hk]
      · exact r1.2.1.trans q1.2
      · by_cases z : h = i
        · rw [z]
          exact r2 j hj
        · rw [r1.2.2 _ (by omega), su_o (by omega)]
          exact q2 h j (by omega) hj
      · rw [r1.1 45 (by omega) (by omega) (by omega), su_11]
        by_cases z : h = i
        · rw [if_pos ⟨rfl, z⟩]
        · rw [if_neg (by omega)]
          exact q3 h (by omega)
      · show fX4_duelOf_L5 (nI n) (n' + 1) ρ (nI (sG (Gn P t) (u0 t) i)) (nI i) kk = fX4_duelOf_L5 (nI n) n' ρ1 (nI (sG (Gn P t) (u0 t) i + Gn P t i (t (1 + i)))) (nI (i + 1)) kk
        rw [fX4_duelOf_L5, (plan_of kC hC).1, if_neg (nI_ge hi (by omega)), wrC (show i < LC 45 by show i < 6; omega)]
        refine r3.trans ?_
        show cl (fX4_slot ρ1 (nI i) 0) _ = _
        have e := r2 n (by omega)
        rw [Nat.add_sub_cancel] at e
        rw [slot0, cl_s, rdC (show 7 * i + 3 < LC 44 by show _ < 42; omega), e, gz, nI_add, nI_1]) (pH P) 0 10000 τ 0 (by omega) (by omega) ⟨⟨⟨fun _ _ => rfl, rfl⟩, fun h i hh => absurd hh (by omega), fun h hh => absurd hh (by omega)⟩, rfl⟩
  obtain ⟨ρ, b, ⟨⟨q1, q2, q3⟩, q4⟩, e⟩ := L
  rw [q4] at e
  exact ⟨ρ, q1, q2, q3, e⟩
def bI (g : Bool) : Int32 := if g then 1 else 0
def sI (g : Bool) : Int32 := if g then 1 else -1
theorem bI_s (g : Bool) : (if bI g = 0 then (-1 : Int32) else 1) = sI g := by
  cases g
  · exact if_pos rfl
  · exact if_neg (by decide)
theorem bI_n (g : Bool) : (if bI g = 0 then (1 : Int32) else 0) = bI (!g) := by
  cases g
  · exact if_pos rfl
  · exact if_neg (by decide)
def Sh (τ : St) (P : Pl) (t : Tw) (u : Nat → Nat) : Prop := ∀ h, h < pH P → τ.1 45 h = nI (u h) - nI (t (1 + h))
def Ub (P : Pl) (t : Tw) (n m : Nat) (u : Nat → Nat) : Prop := ∀ h, h < pH P → u h ≤ 99 ∧ t (1 + h) + m ≤ u h + n ∧ u h + m ≤ t (1 + h) + n
theorem tbl {τ : St} {P : Pl} {t : Tw} {n h v : Nat} (hT : Tb τ P t n (pH P)) (hh : h < pH P) (v9 : v ≤ 99) (h1 : t (1 + h) ≤ v + n) (h2 : v ≤ t (1 + h) + n) : τ.1 44 (7 * h + 3 + v - t (1 + h)) = nI (Gn P t h v) := by
  have e := hT h (v + n - t (1 + h)) hh (by omega)
  rw [show 7 * h + 3 + (v + n - t (1 + h)) - n = 7 * h + 3 + v - t (1 + h) by omega] at e
  rw [e]
  unfold gv
  rw [if_pos (by omega), show t (1 + h) + (v + n - t (1 + h)) - n = v by omega]
def okG (g : Bool) (u : Nat → Nat) (h : Nat) : Bool := if g then decide (u h < 99) else decide (0 < u h)
def nvG (g : Bool) (x : Nat) : Nat := if g then x + 1 else x - 1
theorem purT (τ : St) (g : Bool) (u : Nat → Nat) (h : Nat) (hu : u h ≤ 99) : (okG g u h = true ∧ fX4_isPurse τ (nI (u h) + sI g) = some (τ, 1) ∧ nI (u h) + sI g = nI (nvG g (u h)) ∧ nvG g (u h) ≤ 99 ∧ nvG g (u h) ≤ u h + 1 ∧ u h ≤ nvG g (u h) + 1 ∧ ∀ H, h < H → act H g h u h = nvG g (u h)) ∨ (¬ okG g u h = true ∧ fX4_isPurse τ (nI (u h) + sI g) = some (τ, 0) ∧ ∀ H, act H g h u = u) := by
  unfold fX4_isPurse
  cases g
  · by_cases z : u h = 0
    · refine Or.inr ⟨?_, ?_, fun H => funext fun x => ?_⟩
      · unfold okG
        rw [z]
        decide
      · rw [z, show nI 0 + sI false = -1 from rfl, if_pos (by decide)]
      · unfold act
        by_cases q : x = h ∧ h < H
        · rw [if_pos q, q.1, z]
          rfl
        · rw [if_neg q]
    · have e : nI (u h) + sI false = nI (u h - 1) := by
        have := pk_m1 (u h - 1)
        rw [show u h - 1 + 1 = u h by omega] at this
        exact this
      refine Or.inl ⟨decide_eq_true (show 0 < u h by omega), ?_, e, ?_, ?_, ?_, fun H hH => ?_⟩
      · rw [e, if_neg (nlt0 (by omega)), if_neg (show ¬ (99 : Int32) < nI (u h - 1) from nI_nlt (a := 99) (by omega) (by omega))]
      · show u h - 1 ≤ 99
        omega
      · show u h - 1 ≤ u h + 1
        omega
      · show u h ≤ u h - 1 + 1
        omega
      · unfold act
        rw [if_pos ⟨rfl, hH⟩]
        rfl
  · have e : nI (u h) + sI true = nI (u h + 1) := nI_1 (u h)
    by_cases z : u h < 99
    · refine Or.inl ⟨decide_eq_true z, ?_, e, ?_, ?_, ?_, fun H hH => ?_⟩
      · rw [e, if_neg (nlt0 (by omega)), if_neg (show ¬ (99 : Int32) < nI (u h + 1) from nI_nlt (a := 99) (by omega) (by omega))]
      · show u h + 1 ≤ 99
        omega
      · show u h + 1 ≤ u h + 1
        omega
      · show u h ≤ u h + 1 + 1
        omega
      · unfold act
        rw [if_pos ⟨rfl, hH⟩]
        show min 99 (u h + 1) = u h + 1
        omega
    · refine Or.inr ⟨fun q => z (of_decide_eq_true q), ?_, fun H => funext fun x => ?_⟩
      · rw [e, if_neg (nlt0 (by omega)), if_pos (show (99 : Int32) < nI (u h + 1) from nI_lt (a := 99) (by omega) (by omega))]
      · unfold act
        by_cases q : x = h ∧ h < H
        · rw [if_pos q, q.1]
          show min 99 (u h + 1) = u h
          omega
        · rw [if_neg q]
theorem su_id {σ : St} {k i : Nat} {v : Int32} (h : σ.1 k i = v) : su σ k i v = σ := by
  refine st_ext (fun a j => ?_) (fun _ _ => rfl)
  rw [su_11]
  by_cases q : a = k ∧ j = i
  · rw [if_pos q, q.1, q.2, h]
  · rw [if_neg q]
theorem opC_I {g : Bool} {a x : Nat} (ha : a < 2 ^ 31) (hx : x < 2 ^ 31) : (if bI g = 0 then (if nI x < nI a then nI x else nI a) else (if nI a < nI x then nI x else nI a)) = nI (opC g a x) := by
  unfold opC
  cases g
  · rw [if_pos (show bI false = 0 from rfl)]
    simp only [Bool.false_eq_true, if_false]
    by_cases q : x < a
    · rw [if_pos q, if_pos (nI_lt q ha)]
    · rw [if_neg q, if_neg (nI_nlt (by omega) (by omega))]
  · rw [if_neg (show ¬ bI true = 0 by decide)]
    simp only [if_true]
    by_cases q : a < x
    · rw [if_pos q, if_pos (nI_lt q hx)]
    · rw [if_neg q, if_neg (nI_nlt (by omega) (by omega))]
def DSt (τ : St) (P : Pl) (t : Tw) (n m : Nat) (u : Nat → Nat) : Prop := PlC τ P ∧ TwC τ P t ∧ Tb τ P t n (pH P) ∧ Sh τ P t u ∧ Ub P t n m u
theorem DSt.go {τ : St} {P : Pl} {t : Tw} {n m : Nat} {u : Nat → Nat} {g : Bool} {h : Nat} (d : DSt τ P t n (m + 1) u) (hh : h < pH P) (a1 : nvG g (u h) ≤ 99) (a2 : nvG g (u h) ≤ u h + 1) (a3 : u h ≤ nvG g (u h) + 1) (a4 : act (pH P) g h u h = nvG g (u h)) : DSt (su τ 45 h (nI (nvG g (u h)) - nI (t (1 + h)))) P t n m (act (pH P) g h u) := by
  obtain ⟨d1, d2, d3, d4, d5⟩ := d
  have kC : ∀ k, 25 ≤ k → k < 35 → (su τ 45 h (nI (nvG g (u h)) - nI (t (1 + h)))).1 k = τ.1 k := fun k a b => su_o (by omega)
  refine ⟨plan_of kC d1, town_of kC d2, fun x i hx hi => ?_, fun x hx => ?_, fun x hx => ?_⟩
  · rw [su_o (by omega)]
    exact d3 x i hx hi
  · rw [su_11]
    by_cases z : x = h
    · rw [if_pos ⟨rfl, z⟩, z, a4]
    · rw [if_neg (by omega), d4 x hx]
      unfold act
      rw [if_neg (by omega)]
  · have := d5 x hx
    by_cases z : x = h
    · rw [z] at this ⊢
      rw [a4]
      omega
    · unfold act
      rw [if_neg (by omega)]
      omega
theorem DSt.down {τ : St} {P : Pl} {t : Tw} {n m : Nat} {u : Nat → Nat} (d : DSt τ P t n (m + 1) u) : DSt τ P t n m u := ⟨d.1, d.2.1, d.2.2.1, d.2.2.2.1, fun h hh => by
  have := d.2.2.2.2 h hh
  omega⟩
theorem pl_1 {τ : St} {P : Pl} {t : Tw} {n : Nat} (hP : PlanOk P) (ht : TwOk P t) (hn : n ≤ 3) {m : Nat} {u : Nat → Nat} {g : Bool} (hm : m ≤ 0) (d : DSt τ P t n m u) : fX4_play_1 τ (nI m) (bI g) (nI (sG (Gn P t) u (pH P))) = some (τ, nI (val (Gn P t) (pH P) m g u)) := by
  rw [show m = 0 by omega]
  unfold fX4_play_1
  rw [if_pos (show nI 0 ≤ (0 : Int32) by decide)]
  rfl
theorem pl_2 {τ : St} {P : Pl} {t : Tw} {n : Nat} (hP : PlanOk P) (ht : TwOk P t) (hn : n ≤ 3) {m : Nat} {u : Nat → Nat} {g : Bool} (hm : m ≤ 1) (d : DSt τ P t n m u) : fX4_play_2 τ (nI m) (bI g) (nI (sG (Gn P t) u (pH P))) = some (τ, nI (val (Gn P t) (pH P) m g u)) := by
  have h6 := hP.1
  match m, hm, d with
  | 0, _, _ =>
    unfold fX4_play_2
    rw [if_pos (show nI 0 ≤ (0 : Int32) by decide)]
    rfl
  | m + 1, hm, d =>
    have lev : ∀ h, h < pH P → u h ≤ 99 := fun h hh => (d.2.2.2.2 h hh).1
    obtain ⟨f, hf⟩ : ∃ f : Nat → Nat, f = fun e => val (Gn P t) (pH P) m (!g) (act (pH P) g e u) := ⟨_, rfl⟩
    have fb : ∀ e, f e ≤ 48 := fun e => by
      have := val_le (Gn_le P t) (pH P) m (!g) (act (pH P) g e u)
      rw [hf]
      show val (Gn P t) (pH P) m (!g) (act (pH P) g e u) ≤ 48
      omega
    have fH : f (pH P) = val (Gn P t) (pH P) m (!g) u := by
      rw [hf]
      show val (Gn P t) (pH P) m (!g) (act (pH P) g (pH P) u) = _
      rw [act_no (by omega)]
    have p0 := pl_1 hP ht hn (g := !g) (show m ≤ 0 by omega) d.down
    have vE : val (Gn P t) (pH P) (m + 1) g u = fo (cF g f (okG g u)) 0 (pH P) (f (pH P)) := by
      rw [cF_bst (fun e he no => ?_), hf]
      · rfl
      · rcases purT τ g u e (lev e he) with a | a
        · exact absurd a.1 no
        · rw [fH, hf]
          show val (Gn P t) (pH P) m (!g) (act (pH P) g e u) = _
          rw [a.2.2 (pH P)]
    unfold fX4_play_2
    rw [if_neg (nI_nle (by omega) (by omega)), if_pos (show nI (m + 1) ≤ (3 : Int32) from nI_le (b := 3) (by omega) (by omega)), pv_s, pv_s, nI_pred, bI_s, bI_n, p0, cl_s, vE, ← fH]
    have L := jloop (fun n' σ a i k2 => fX4_play_2_L47 (nI (m + 1)) (bI g) (nI (sG (Gn P t) u (pH P))) (sI g) n' σ a i (fun σ a i => k2 σ a i)) (pH P) (fun i ρ b => ρ = τ ∧ b = nI (fo (cF g f (okG g u)) 0 i (f (pH P)))) (fun σ31 v32 v33 => some (σ31, v32)) (fun n' ρ b hI => by
        show fX4_play_2_L47 (nI (m + 1)) (bI g) (nI (sG (Gn P t) u (pH P))) (sI g) (n' + 1) ρ b (nI (pH P)) _ = _
        rw [fX4_play_2_L47, hI.1, d.1.1, if_pos (nI_le (by omega) (by omega))]) (fun n' ρ b i hi hI => by
        obtain ⟨q1, q2⟩ := hI
        rw [q1, q2]
        have hu := lev i hi
        have ub := d.2.2.2.2 i hi
        have ub0 := ht.2.1 i hi
        obtain ⟨-, -, e0, -, r4⟩ := cF_p g f (okG g u) (pH P) i
        have r48 : fo (cF g f (okG g u)) 0 i (f (pH P)) ≤ 48 := by
          rw [r4]
          exact fb e0
        refine ⟨τ, nI (cF g f (okG g u) (fo (cF g f (okG g u)) 0 i (f (pH P))) i), ⟨rfl, by rw [fo_succ, Nat.zero_add]⟩, ?_⟩
        revert r48
        generalize fo (cF g f (okG g u)) 0 i (f (pH P)) = r
        intro r48
        show fX4_play_2_L47 (nI (m + 1)) (bI g) (nI (sG (Gn P t) u (pH P))) (sI g) (n' + 1) τ (nI r) (nI i) _ = fX4_play_2_L47 (nI (m + 1)) (bI g) (nI (sG (Gn P t) u (pH P))) (sI g) n' τ _ (nI (i + 1)) _
        rw [fX4_play_2_L47, d.1.1, if_neg (nI_ge hi (by omega)), rdC (show i < LC 45 by show i < 6; omega), rdC (show i < LC 33 by show i < 6; omega), d.2.2.2.1 i hi, d.2.1.2.1 i hi, i32t, nI_1]
        unfold cF
        rcases purT τ g u i hu with ⟨o1, o2, o3, o4, o5, o6, o7⟩ | ⟨o1, o2, o3⟩
        · have a4 := o7 (pH P) hi
          have go := d.go hi o4 o5 o6 a4
          have sm := sG_upd (G := Gn P t) (u := u) (v := act (pH P) g i u) (e := i) (fun x hx => if_neg (fun q => hx q.1)) (pH P) hi
          rw [a4] at sm
          have p1 := pl_1 hP ht hn (g := !g) (show m ≤ 0 by omega) go
          have fi : f i = val (Gn P t) (pH P) m (!g) (act (pH P) g i u) := by rw [hf]
          have x2 : nI (sG (Gn P t) u (pH P)) - nI (Gn P t i (u i)) + nI (Gn P t i (nvG g (u i))) = nI (sG (Gn P t) (act (pH P) g i u) (pH P)) := by
            rw [pk_sub sm.2, nI_add, show sG (Gn P t) u (pH P) - Gn P t i (u i) + Gn P t i (nvG g (u i)) = sG (Gn P t) (act (pH P) g i u) (pH P) by omega]
          rw [o2, cl_s, jn_s, if_neg (show ¬ (1 : Int32) = 0 by decide), slotC τ (by omega), cl_s, rdC (show 7 * i + 3 + u i - t (1 + i) < LC 44 by show _ < 42; omega), tbl d.2.2.1 hi hu (by omega) (by omega), i32s, o3, slotC τ (by omega), cl_s, rdC (show 7 * i + 3 + nvG g (u i) - t (1 + i) < LC 44 by show _ < 42; omega), tbl d.2.2.1 hi o4 (by omega) (by omega), wrC (show i < LC 45 by show i < 6; omega), bI_n, pv_s, nI_pred, x2, p1, cl_s, wrC (show i < LC 45 by show i < 6; omega), su_su, su_id (d.2.2.2.1 i hi), pv_s, ← fi, opC_I (by omega) (by have := fb i; omega), if_pos o1]
        · rw [o2, cl_s, jn_s, if_pos rfl, if_neg o1]) (pH P) 0 10000 τ (nI (f (pH P))) (by omega) (by omega) ⟨rfl, rfl⟩
    obtain ⟨ρ, b, ⟨q1, q2⟩, e⟩ := L
    rw [q1, q2] at e
    exact e
theorem pl_3 {τ : St} {P : Pl} {t : Tw} {n : Nat} (hP : PlanOk P) (ht : TwOk P t) (hn : n ≤ 3) {m : Nat} {u : Nat → Nat} {g : Bool} (hm : m ≤ 2) (d : DSt τ P t n m u) : fX4_play_3 τ (nI m) (bI g) (nI (sG (Gn P t) u (pH P))) = some (τ, nI (val (Gn P t) (pH P) m g u)) := by
  have h6 := hP.1
  match m, hm, d with
  | 0, _, _ =>
    unfold fX4_play_3
    rw [if_pos (show nI 0 ≤ (0 : Int32) by decide)]
    rfl
  | m + 1, hm, d =>
    have lev : ∀ h, h < pH P → u h ≤ 99 := fun h hh => (d.2.2.2.2 h hh).1
    obtain ⟨f, hf⟩ : ∃ f : Nat → Nat, f = fun e => val (Gn P t) (pH P) m (!g) (act (pH P) g e u) := ⟨_, rfl⟩
    have fb : ∀ e, f e ≤ 48 := fun e => by
      have := val_le (Gn_le P t) (pH P) m (!g) (act (pH P) g e u)
      rw [hf]
      show val (Gn P t) (pH P) m (!g) (act (pH P) g e u) ≤ 48
      omega
    have fH : f (pH P) = val (Gn P t) (pH P) m (!g) u := by
      rw [hf]
      show val (Gn P t) (pH P) m (!g) (act (pH P) g (pH P) u) = _
      rw [act_no (by omega)]
    have p0 := pl_2 hP ht hn (g := !g) (show m ≤ 1 by omega) d.down
    have vE : val (Gn P t) (pH P) (m + 1) g u = fo (cF g f (okG g u)) 0 (pH P) (f (pH P)) := by
      rw [cF_bst (fun e he no => ?_), hf]
      · rfl
      · rcases purT τ g u e (lev e he) with a | a
        · exact absurd a.1 no
        · rw [fH, hf]
          show val (Gn P t) (pH P) m (!g) (act (pH P) g e u) = _
          rw [a.2.2 (pH P)]
    unfold fX4_play_3
    rw [if_neg (nI_nle (by omega) (by omega)), if_pos (show nI (m + 1) ≤ (3 : Int32) from nI_le (b := 3) (by omega) (by omega)), pv_s, pv_s, nI_pred, bI_s, bI_n, p0, cl_s, vE, ← fH]
    have L := jloop (fun n' σ a i k2 => fX4_play_3_L47 (nI (m + 1)) (bI g) (nI (sG (Gn P t) u (pH P))) (sI g) n' σ a i (fun σ a i => k2 σ a i)) (pH P) (fun i ρ b => ρ = τ ∧ b = nI (fo (cF g f (okG g u)) 0 i (f (pH P)))) (fun σ31 v32 v33 => some (σ31, v32)) (fun n' ρ b hI => by
        show fX4_play_3_L47 (nI (m + 1)) (bI g) (nI (sG (Gn P t) u (pH P))) (sI g) (n' + 1) ρ b (nI (pH P)) _ = _
        rw [fX4_play_3_L47, hI.1, d.1.1, if_pos (nI_le (by omega) (by omega))]) (fun n' ρ b i hi hI => by
        obtain ⟨q1, q2⟩ := hI
        rw [q1, q2]
        have hu := lev i hi
        have ub := d.2.2.2.2 i hi
        have ub0 := ht.2.1 i hi
        obtain ⟨-, -, e0, -, r4⟩ := cF_p g f (okG g u) (pH P) i
        have r48 : fo (cF g f (okG g u)) 0 i (f (pH P)) ≤ 48 := by
          rw [r4]
          exact fb e0
        refine ⟨τ, nI (cF g f (okG g u) (fo (cF g f (okG g u)) 0 i (f (pH P))) i), ⟨rfl, by rw [fo_succ, Nat.zero_add]⟩, ?_⟩
        revert r48
        generalize fo (cF g f (okG g u)) 0 i (f (pH P)) = r
        intro r48
        show fX4_play_3_L47 (nI (m + 1)) (bI g) (nI (sG (Gn P t) u (pH P))) (sI g) (n' + 1) τ (nI r) (nI i) _ = fX4_play_3_L47 (nI (m + 1)) (bI g) (nI (sG (Gn P t) u (pH P))) (sI g) n' τ _ (nI (i + 1)) _
        rw [fX4_play_3_L47, d.1.1, if_neg (nI_ge hi (by omega)), rdC (show i < LC 45 by show i < 6; omega), rdC (show i < LC 33 by show i < 6; omega), d.2.2.2.1 i hi, d.2.1.2.1 i hi, i32t, nI_1]
        unfold cF
        rcases purT τ g u i hu with ⟨o1, o2, o3, o4, o5, o6, o7⟩ | ⟨o1, o2, o3⟩
        · have a4 := o7 (pH P) hi
          have go := d.go hi o4 o5 o6 a4
          have sm := sG_upd (G := Gn P t) (u := u) (v := act (pH P) g i u) (e := i) (fun x hx => if_neg (fun q => hx q.1)) (pH P) hi
          rw [a4] at sm
          have p1 := pl_2 hP ht hn (g := !g) (show m ≤ 1 by omega) go
          have fi : f i = val (Gn P t) (pH P) m (!g) (act (pH P) g i u) := by rw [hf]
          have x2 : nI (sG (Gn P t) u (pH P)) - nI (Gn P t i (u i)) + nI (Gn P t i (nvG g (u i))) = nI (sG (Gn P t) (act (pH P) g i u) (pH P)) := by
            rw [pk_sub sm.2, nI_add, show sG (Gn P t) u (pH P) - Gn P t i (u i) + Gn P t i (nvG g (u i)) = sG (Gn P t) (act (pH P) g i u) (pH P) by omega]
          rw [o2, cl_s, jn_s, if_neg (show ¬ (1 : Int32) = 0 by decide), slotC τ (by omega), cl_s, rdC (show 7 * i + 3 + u i - t (1 + i) < LC 44 by show _ < 42; omega), tbl d.2.2.1 hi hu (by omega) (by omega), i32s, o3, slotC τ (by omega), cl_s, rdC (show 7 * i + 3 + nvG g (u i) - t (1 + i) < LC 44 by show _ < 42; omega), tbl d.2.2.1 hi o4 (by omega) (by omega), wrC (show i < LC 45 by show i < 6; omega), bI_n, pv_s, nI_pred, x2, p1, cl_s, wrC (show i < LC 45 by show i < 6; omega), su_su, su_id (d.2.2.2.1 i hi), pv_s, ← fi, opC_I (by omega) (by have := fb i; omega), if_pos o1]
        · rw [o2, cl_s, jn_s, if_pos rfl, if_neg o1]) (pH P) 0 10000 τ (nI (f (pH P))) (by omega) (by omega) ⟨rfl, rfl⟩
    obtain ⟨ρ, b, ⟨q1, q2⟩, e⟩ := L
    rw [q1, q2] at e
    exact e
theorem pl_4 {τ : St} {P : Pl} {t : Tw} {n : Nat} (hP : PlanOk P) (ht : TwOk P t) (hn : n ≤ 3) {m : Nat} {u : Nat → Nat} {g : Bool} (hm : m ≤ 3) (d : DSt τ P t n m u) : fX4_play_4 τ (nI m) (bI g) (nI (sG (Gn P t) u (pH P))) = some (τ, nI (val (Gn P t) (pH P) m g u)) := by
  have h6 := hP.1
  match m, hm, d with
  | 0, _, _ =>
    unfold fX4_play_4
    rw [if_pos (show nI 0 ≤ (0 : Int32) by decide)]
    rfl
  | m + 1, hm, d =>
    have lev : ∀ h, h < pH P → u h ≤ 99 := fun h hh => (d.2.2.2.2 h hh).1
    obtain ⟨f, hf⟩ : ∃ f : Nat → Nat, f = fun e => val (Gn P t) (pH P) m (!g) (act (pH P) g e u) := ⟨_, rfl⟩
    have fb : ∀ e, f e ≤ 48 := fun e => by
      have := val_le (Gn_le P t) (pH P) m (!g) (act (pH P) g e u)
      rw [hf]
      show val (Gn P t) (pH P) m (!g) (act (pH P) g e u) ≤ 48
      omega
    have fH : f (pH P) = val (Gn P t) (pH P) m (!g) u := by
      rw [hf]
      show val (Gn P t) (pH P) m (!g) (act (pH P) g (pH P) u) = _
      rw [act_no (by omega)]
    have p0 := pl_3 hP ht hn (g := !g) (show m ≤ 2 by omega) d.down
    have vE : val (Gn P t) (pH P) (m + 1) g u = fo (cF g f (okG g u)) 0 (pH P) (f (pH P)) := by
      rw [cF_bst (fun e he no => ?_), hf]
      · rfl
      · rcases purT τ g u e (lev e he) with a | a
        · exact absurd a.1 no
        · rw [fH, hf]
          show val (Gn P t) (pH P) m (!g) (act (pH P) g e u) = _
          rw [a.2.2 (pH P)]
    unfold fX4_play_4
    rw [if_neg (nI_nle (by omega) (by omega)), if_pos (show nI (m + 1) ≤ (3 : Int32) from nI_le (b := 3) (by omega) (by omega)), pv_s, pv_s, nI_pred, bI_s, bI_n, p0, cl_s, vE, ← fH]
    have L := jloop (fun n' σ a i k2 => fX4_play_4_L47 (nI (m + 1)) (bI g) (nI (sG (Gn P t) u (pH P))) (sI g) n' σ a i (fun σ a i => k2 σ a i)) (pH P) (fun i ρ b => ρ = τ ∧ b = nI (fo (cF g f (okG g u)) 0 i (f (pH P)))) (fun σ31 v32 v33 => some (σ31, v32)) (fun n' ρ b hI => by
        show fX4_play_4_L47 (nI (m + 1)) (bI g) (nI (sG (Gn P t) u (pH P))) (sI g) (n' + 1) ρ b (nI (pH P)) _ = _
        rw [fX4_play_4_L47, hI.1, d.1.1, if_pos (nI_le (by omega) (by omega))]) (fun n' ρ b i hi hI => by
        obtain ⟨q1, q2⟩ := hI
        rw [q1, q2]
        have hu := lev i hi
        have ub := d.2.2.2.2 i hi
        have ub0 := ht.2.1 i hi
        obtain ⟨-, -, e0, -, r4⟩ := cF_p g f (okG g u) (pH P) i
        have r48 : fo (cF g f (okG g u)) 0 i (f (pH P)) ≤ 48 := by
          rw [r4]
          exact fb e0
        refine ⟨τ, nI (cF g f (okG g u) (fo (cF g f (okG g u)) 0 i (f (pH P))) i), ⟨rfl, by rw [fo_succ, Nat.zero_add]⟩, ?_⟩
        revert r48
        generalize fo (cF g f (okG g u)) 0 i (f (pH P)) = r
        intro r48
        show fX4_play_4_L47 (nI (m + 1)) (bI g) (nI (sG (Gn P t) u (pH P))) (sI g) (n' + 1) τ (nI r) (nI i) _ = fX4_play_4_L47 (nI (m + 1)) (bI g) (nI (sG (Gn P t) u (pH P))) (sI g) n' τ _ (nI (i + 1)) _
        rw [fX4_play_4_L47, d.1.1, if_neg (nI_ge hi (by omega)), rdC (show i < LC 45 by show i < 6; omega), rdC (show i < LC 33 by show i < 6; omega), d.2.2.2.1 i hi, d.2.1.2.1 i hi, i32t, nI_1]
        unfold cF
        rcases purT τ g u i hu with ⟨o1, o2, o3, o4, o5, o6, o7⟩ | ⟨o1, o2, o3⟩
        · have a4 := o7 (pH P) hi
          have go := d.go hi o4 o5 o6 a4
          have sm := sG_upd (G := Gn P t) (u := u) (v := act (pH P) g i u) (e := i) (fun x hx => if_neg (fun q => hx q.1)) (pH P) hi
          rw [a4] at sm
          have p1 := pl_3 hP ht hn (g := !g) (show m ≤ 2 by omega) go
          have fi : f i = val (Gn P t) (pH P) m (!g) (act (pH P) g i u) := by rw [hf]
          have x2 : nI (sG (Gn P t) u (pH P)) - nI (Gn P t i (u i)) + nI (Gn P t i (nvG g (u i))) = nI (sG (Gn P t) (act (pH P) g i u) (pH P)) := by
            rw [pk_sub sm.2, nI_add, show sG (Gn P t) u (pH P) - Gn P t i (u i) + Gn P t i (nvG g (u i)) = sG (Gn P t) (act (pH P) g i u) (pH P) by omega]
          rw [o2, cl_s, jn_s, if_neg (show ¬ (1 : Int32) = 0 by decide), slotC τ (by omega), cl_s, rdC (show 7 * i + 3 + u i - t (1 + i) < LC 44 by show _ < 42; omega), tbl d.2.2.1 hi hu (by omega) (by omega), i32s, o3, slotC τ (by omega), cl_s, rdC (show 7 * i + 3 + nvG g (u i) - t (1 + i) < LC 44 by show _ < 42; omega), tbl d.2.2.1 hi o4 (by omega) (by omega), wrC (show i < LC 45 by show i < 6; omega), bI_n, pv_s, nI_pred, x2, p1, cl_s, wrC (show i < LC 45 by show i < 6; omega), su_su, su_id (d.2.2.2.1 i hi), pv_s, ← fi, opC_I (by omega) (by have := fb i; omega), if_pos o1]
        · rw [o2, cl_s, jn_s, if_pos rfl, if_neg o1]) (pH P) 0 10000 τ (nI (f (pH P))) (by omega) (by omega) ⟨rfl, rfl⟩
    obtain ⟨ρ, b, ⟨q1, q2⟩, e⟩ := L
    rw [q1, q2] at e
    exact e
theorem duelC {τ : St} {P : Pl} {t : Tw} (hP : PlanOk P) (hC : PlC τ P) (ht : TwOk P t) (tC : TwC τ P t) {n : Nat} (hn : n ≤ 3) : ∃ τ', eqL τ τ' ∧ fX4_duelOf τ (nI n) = some (τ', nI (val (Gn P t) (pH P) n true (u0 t))) := by
  have h6 := hP.1
  obtain ⟨τ', e1, e2, e3, e4⟩ := duelIC hP hC ht tC hn (fun σ17 v18 v19 => cl (fX4_play_4 σ17 (nI n) 1 v18) (fun σ20 r21 => some (σ20, r21)))
  have kC : ∀ k, 25 ≤ k → k < 35 → τ'.1 k = τ.1 k := fun k a b => e1.1 k (by omega)
  refine ⟨τ', e1, ?_⟩
  unfold fX4_duelOf
  refine e4.trans ?_
  have p := pl_4 (τ := τ') hP ht hn (m := n) (u := u0 t) (g := true) (by omega) ⟨plan_of kC hC, town_of kC tC, e2, fun h hh => by
    rw [e3 h hh]
    exact (Int32.sub_self _).symm, fun h hh => by
    have := ht.2.1 h hh
    show t (1 + h) ≤ 99 ∧ t (1 + h) + n ≤ t (1 + h) + n ∧ t (1 + h) + n ≤ t (1 + h) + n
    omega⟩
  show cl (fX4_play_4 τ' (nI n) (bI true) (nI (sG (Gn P t) (u0 t) (pH P)))) _ = _
  rw [p]
  rfl
