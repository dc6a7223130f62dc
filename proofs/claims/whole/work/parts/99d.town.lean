/-! a town by a text -/
theorem chA {α : Type} (d : α) {n : Nat} {p : Nat → α → Prop} (H : ∀ j, j < n → ∃ v, p j v) : ∃ f : Nat → α, ∀ j, j < n → p j (f j) := by
  refine ⟨fun j => if h : j < n then Classical.choose (H j h) else d, fun j hj => ?_⟩
  have e : (if h : j < n then Classical.choose (H j h) else d) = Classical.choose (H j hj) := dif_pos hj
  show p j (if h : j < n then Classical.choose (H j h) else d)
  rw [e]
  exact Classical.choose_spec (H j hj)
theorem cmpS_tr {A B C : Nat → Nat} : ∀ m s, cmpS A B s m < 0 → cmpS B C s m < 0 → cmpS A C s m < 0
  | 0, _, h, _ => absurd h (by unfold cmpS; omega)
  | m + 1, s, h, g => by
    unfold cmpS at h g ⊢
    by_cases a : A s = B s
    · rw [if_pos a] at h
      by_cases b : B s = C s
      · rw [if_pos b] at g
        rw [if_pos (a.trans b)]
        exact cmpS_tr m (s + 1) h g
      · rw [if_neg b] at g
        by_cases c : B s < C s
        · rw [if_neg (by omega), if_pos (by omega)]
          omega
        · rw [if_neg c] at g
          omega
    · rw [if_neg a] at h
      by_cases c : A s < B s
      · by_cases b : B s = C s
        · rw [if_neg (by omega), if_pos (by omega)]
          omega
        · rw [if_neg b] at g
          by_cases e : B s < C s
          · rw [if_neg (by omega), if_pos (by omega)]
            omega
          · rw [if_neg e] at g
            omega
      · rw [if_neg c] at h
        omega
def rk (lt : Nat → Bool) : Nat → Nat
  | 0 => 0
  | m + 1 => rk lt m + (if lt m then 1 else 0)
theorem rk_le (lt : Nat → Bool) : ∀ m, rk lt m ≤ m
  | 0 => Nat.le_refl 0
  | m + 1 => by
    have := rk_le lt m
    show rk lt m + (if lt m then 1 else 0) ≤ m + 1
    split <;> omega
theorem rk_lt {lt : Nat → Bool} {c : Nat} (h : lt c = false) : ∀ m, c < m → rk lt m < m
  | 0, hc => absurd hc (by omega)
  | m + 1, hc => by
    show rk lt m + (if lt m then 1 else 0) < m + 1
    by_cases z : c = m
    · have := rk_le lt m
      rw [← z, h]
      rw [← z] at this
      simp only [Bool.false_eq_true, if_false]
      omega
    · have := rk_lt h m (by omega)
      split <;> omega
theorem rk_mono {lt lt' : Nat → Bool} (h : ∀ e, lt e = true → lt' e = true) : ∀ m, rk lt m ≤ rk lt' m
  | 0 => Nat.le_refl 0
  | m + 1 => by
    have := rk_mono h m
    show rk lt m + (if lt m then 1 else 0) ≤ rk lt' m + (if lt' m then 1 else 0)
    by_cases q : lt m = true
    · rw [if_pos q, if_pos (h m q)]
      omega
    · rw [if_neg q]
      omega
theorem rk_more {lt lt' : Nat → Bool} {c : Nat} (h : ∀ e, lt e = true → lt' e = true) (h0 : lt c = false) (h1 : lt' c = true) : ∀ m, c < m → rk lt m < rk lt' m
  | 0, hc => absurd hc (by omega)
  | m + 1, hc => by
    show rk lt m + (if lt m then 1 else 0) < rk lt' m + (if lt' m then 1 else 0)
    by_cases z : c = m
    · have := rk_mono h m
      rw [← z, h0, h1]
      rw [← z] at this
      simp only [Bool.false_eq_true, if_false, if_true]
      omega
    · have := rk_more h h0 h1 m (by omega)
      by_cases q : lt m = true
      · rw [if_pos q, if_pos (h m q)]
        omega
      · rw [if_neg q]
        omega
theorem surj : ∀ (n : Nat) (f : Nat → Nat), (∀ i, i < n → f i < n) → (∀ i j, i < n → j < n → f i = f j → i = j) → ∀ y, y < n → ∃ i, i < n ∧ f i = y
  | 0, _, _, _, y, hy => absurd hy (by omega)
  | n + 1, f, hf, hj, y, hy => by
    have ih := surj n (fun i => if f i = n then f n else f i) (fun i hi => by
      have a := hf i (by omega)
      have b := hf n (by omega)
      show (if f i = n then f n else f i) < n
      by_cases q : f i = n
      · rw [if_pos q]
        have : f n ≠ n := fun z => by
          have := hj i n (by omega) (by omega) (q.trans z.symm)
          omega
        omega
      · rw [if_neg q]
        omega) (fun i j hi hj' e => by
      have e' : (if f i = n then f n else f i) = (if f j = n then f n else f j) := e
      by_cases q : f i = n
      · by_cases w : f j = n
        · exact hj i j (by omega) (by omega) (q.trans w.symm)
        · rw [if_pos q, if_neg w] at e'
          have := hj n j (by omega) (by omega) e'
          omega
      · by_cases w : f j = n
        · rw [if_neg q, if_pos w] at e'
          have := hj i n (by omega) (by omega) e'
          omega
        · rw [if_neg q, if_neg w] at e'
          exact hj i j (by omega) (by omega) e')
    have hn := hf n (by omega)
    by_cases z : y = f n
    · exact ⟨n, by omega, z.symm⟩
    · by_cases w : y = n
      · obtain ⟨i, hi, e⟩ := ih (f n) (by omega)
        have e' : (if f i = n then f n else f i) = f n := e
        by_cases q : f i = n
        · exact ⟨i, by omega, q.trans w.symm⟩
        · rw [if_neg q] at e'
          have := hj i n (by omega) (by omega) e'
          omega
      · obtain ⟨i, hi, e⟩ := ih y (by omega)
        have e' : (if f i = n then f n else f i) = y := e
        by_cases q : f i = n
        · rw [if_pos q] at e'
          exact absurd e'.symm z
        · rw [if_neg q] at e'
          exact ⟨i, by omega, e'⟩
def ltN (A : Nat → Nat → Nat) (c e : Nat) : Bool := decide (cmpS (A e) (A c) 0 7 < 0)
def rkN (A : Nat → Nat → Nat) (nc c : Nat) : Nat := rk (ltN A c) nc
theorem ltN_self (A : Nat → Nat → Nat) (c : Nat) : ltN A c c = false := decide_eq_false (by rw [cmpS_eq 7 0 (fun _ _ _ => rfl)]; omega)
theorem rkN_lt {A : Nat → Nat → Nat} {nc c : Nat} (hc : c < nc) : rkN A nc c < nc := rk_lt (ltN_self A c) nc hc
theorem rkN_more {A : Nat → Nat → Nat} {nc c d : Nat} (hc : c < nc) (h : cmpS (A c) (A d) 0 7 < 0) : rkN A nc c < rkN A nc d := rk_more (fun e he => decide_eq_true (cmpS_tr 7 0 (of_decide_eq_true he) h)) (ltN_self A c) (decide_eq_true h) nc hc
theorem rkN_inj {A : Nat → Nat → Nat} {nc c d : Nat} (hD : ∀ c d, c < d → d < nc → ¬ cmpS (A c) (A d) 0 7 = 0) (hc : c < nc) (hd : d < nc) (e : rkN A nc c = rkN A nc d) : c = d := by
  have key : ∀ c d, c < d → d < nc → rkN A nc c = rkN A nc d → False := fun c d h1 h2 e => by
    have ne := hD c d h1 h2
    by_cases q : cmpS (A c) (A d) 0 7 < 0
    · have := rkN_more (nc := nc) (show c < nc by omega) q
      omega
    · have n2 := cmpS_neg (A d) (A c) 7 0
      have := rkN_more (A := A) (nc := nc) (c := d) (d := c) h2 (by omega)
      omega
  by_cases z : c = d
  · exact z
  · exfalso
    by_cases w : c < d
    · exact key c d w hd e
    · exact key d c (by omega) hc e.symm
-- what was read
def Rdd (T : Nat → Int32) (n : Nat) (τ σ : St) (nc : Nat) (s l : Nat → Nat) (a : Nat → Nat → Nat) (p q : Nat → Nat) : Prop := ∀ c, c < nc → NmR T τ σ n c (s c) (l c) (a c) ∧ PrR τ σ c (p c) (q c)
abbrev nmA (l : Nat → Nat) (a : Nat → Nat → Nat) (c : Nat) : Nat → Nat := pd 97 (l c) (a c)
def FtC (τ ρ : St) : Prop := (∀ k, k < 26 ∨ 32 < k → ρ.1 k = τ.1 k) ∧ ρ.2 = τ.2
def PosC (ρ : St) (l : Nat → Nat) (a : Nat → Nat → Nat) (p q : Nat → Nat) (R c : Nat) : Prop := ρ.1 28 R = nI (l c) ∧ ρ.1 29 R = nI (p c) ∧ ρ.1 30 R = nI (q c) ∧ ∀ j, j < l c → ρ.1 27 (7 * R + j) = nI (a c j)
section TK
variable {τ σ : St} {T : Nat → Int32} {tx n nc : Nat} {s l : Nat → Nat} {a : Nat → Nat → Nat} {p q : Nat → Nat}
theorem rankC (htx : tx < 4) (hn : n ≤ 90) (xC : TxC τ tx T) (hR : Rdd T n τ σ nc s l a p q) (h8 : nc ≤ 8) {ρ : St} (F : FtC τ ρ) (h6 : ρ.1 26 6 = nI nc) {c : Nat} (hc : c < nc) (kk : St → Int32 → Int32 → Option (St × Unit)) : fX6_takeColour_L6 (13 + tx) (nI c) 10000 ρ 0 0 kk = kk ρ (nI (rkN (nmA l a) nc c)) (nI nc) := by
  have xR : TxC ρ tx T := fun i hi => by
    rw [F.1 (13 + tx) (by omega)]
    exact xC i hi
  have L : ∀ (m e f : Nat), e + m = nc → m < f → fX6_takeColour_L6 (13 + tx) (nI c) f ρ (nI (rk (ltN (nmA l a) c) e)) (nI e) kk = kk ρ (nI (rkN (nmA l a) nc c)) (nI nc) := by
    intro m
    induction m with
    | zero =>
      intro e f he hf
      match f, hf with
      | f + 1, _ =>
        rw [fX6_takeColour_L6, h6, if_pos (nI_le (by omega) (by omega)), show e = nc by omega]
        rfl
    | succ m ih =>
      intro e f he hf
      match f, hf with
      | f + 1, hf =>
        have ih' := ih (e + 1) f (by omega) (by omega)
        rw [show rk (ltN (nmA l a) c) (e + 1) = rk (ltN (nmA l a) c) e + (if ltN (nmA l a) c e then 1 else 0) from rfl] at ih'
        have N1 := (hR e (by omega)).1.fr (τ' := ρ) (σ' := σ) (Nat.le_refl n) (by rw [F.1 18 (by omega)]) (by rw [F.1 19 (by omega)]) (fun j _ => rfl)
        have N2 := (hR c hc).1.fr (τ' := ρ) (σ' := σ) (Nat.le_refl n) (by rw [F.1 18 (by omega)]) (by rw [F.1 19 (by omega)]) (fun j _ => rfl)
        obtain ⟨r, r1, -, r3⟩ := cmpN htx xR (show n ≤ 90 from hn) (show e < 8 by omega) (show c < 8 by omega) N1 N2
        rw [fX6_takeColour_L6, h6, if_neg (nI_ge (by omega) (by omega)), r1, cl_s, nI_1, nI_1]
        by_cases w : cmpS (nmA l a e) (nmA l a c) 0 7 < 0
        · rw [if_neg (show ¬ (0 : Int32) ≤ r from fun y => by
            have := r3.mpr w
            rw [i_lt] at this
            rw [i_le] at y
            omega), pv_s]
          rw [show ltN (nmA l a) c e = true from decide_eq_true w, if_pos rfl] at ih'
          exact ih'
        · rw [if_pos (show (0 : Int32) ≤ r from Int32.not_lt.mp (fun y => w (r3.mp y))), pv_s]
          rw [show ltN (nmA l a) c e = false from decide_eq_false w, if_neg (by decide)] at ih'
          exact ih'
  exact L nc 0 10000 (by omega) (by omega)
theorem takeC (htx : tx < 4) (hn : n ≤ 90) (xC : TxC τ tx T) (hR : Rdd T n τ σ nc s l a p q) (h8 : nc ≤ 8) {ρ : St} (F : FtC τ ρ) (h6 : ρ.1 26 6 = nI nc) {c R : Nat} (hc : c < nc) (eR : rkN (nmA l a) nc c = R) : ∃ ρ', fX6_takeColour ρ (13 + tx) (nI c) = some (ρ', ()) ∧ FtC τ ρ' ∧ ρ'.1 26 = ρ.1 26 ∧ PosC ρ' l a p q R c ∧ ∀ r, r ≠ R → (ρ'.1 28 r = ρ.1 28 r ∧ ρ'.1 29 r = ρ.1 29 r ∧ ρ'.1 30 r = ρ.1 30 r) ∧ ∀ j, j < 7 → ρ'.1 27 (7 * r + j) = ρ.1 27 (7 * r + j) := by
  have R8 : R < nc := by
    rw [← eR]
    exact rkN_lt hc
  obtain ⟨⟨⟨l1, l7, ls⟩, n1, n2, n3, -⟩, -, p1, -, p2, -⟩ := hR c hc
  obtain ⟨ρ1, e1⟩ : ∃ x, x = su (su (su ρ 28 R (nI (l c))) 29 R (nI (p c))) 30 R (nI (q c)) := ⟨_, rfl⟩
  have f1 : ∀ k, k ≠ 28 → k ≠ 29 → k ≠ 30 → ρ1.1 k = ρ.1 k := fun k x y z => by rw [e1, su_o z, su_o y, su_o x]
  have g1 : ρ1.1 28 R = nI (l c) := by rw [e1, su_o (by omega), su_o (by omega), su_11, if_pos ⟨rfl, rfl⟩]
  have g2 : ρ1.1 29 R = nI (p c) := by rw [e1, su_o (by omega), su_11, if_pos ⟨rfl, rfl⟩]
  have g3 : ρ1.1 30 R = nI (q c) := by rw [e1, su_11, if_pos ⟨rfl, rfl⟩]
  have L := iloop (fun n' σ i k => fX6_takeColour_L77 (13 + tx) (nI c) (nI R) n' σ i k) (l c) (fun i ρ' => (∀ k, k ≠ 27 → ρ'.1 k = ρ1.1 k) ∧ ρ'.2 = ρ1.2 ∧ (∀ j, j < i → ρ'.1 27 (7 * R + j) = nI (a c j)) ∧ ∀ x, x < 7 * R ∨ 7 * R + 7 ≤ x → ρ'.1 27 x = ρ1.1 27 x) (fun σ23 v24 => some (σ23, ())) (fun n' ρ' hI => by
      show fX6_takeColour_L77 (13 + tx) (nI c) (nI R) (n' + 1) ρ' (nI (l c)) _ = _
      rw [fX6_takeColour_L77, rdC (show R < LC 28 by show R < 8; omega), hI.1 28 (by omega), g1, if_pos (nI_le (by omega) (by omega))]) (fun n' ρ' i hi hI => by
      obtain ⟨q1, q2, q3, q4⟩ := hI
      have h18 : ρ'.1 18 c = nI (s c) := by rw [q1 18 (by omega), f1 18 (by omega) (by omega) (by omega), F.1 18 (by omega)]; exact n1
      have hT : ρ'.1 (13 + tx) (s c + i) = nI (97 + a c i) := by rw [q1 (13 + tx) (by omega), f1 (13 + tx) (by omega) (by omega) (by omega), F.1 (13 + tx) (by omega), xC (s c + i) (by omega)]; exact (n3 i hi).2
      have h97 : nI (97 + a c i) - 97 = nI (a c i) := by rw [show (97 : Int32) = nI 97 from rfl, pk_sub (by omega), Nat.add_sub_cancel_left]
      refine ⟨su ρ' 27 (7 * R + i) (nI (a c i)), ⟨fun k hk => (su_o hk).trans (q1 k hk), q2, fun j hj => ?_, fun x hx => ?_⟩, ?_⟩
      · rw [su_11]
        by_cases z : j = i
        · rw [if_pos ⟨rfl, by rw [z]⟩, z]
        · rw [if_neg (by omega)]
          exact q3 j (by omega)
      · rw [su_11, if_neg (by omega)]
        exact q4 x hx
      · show fX6_takeColour_L77 (13 + tx) (nI c) (nI R) (n' + 1) ρ' (nI i) _ = fX6_takeColour_L77 (13 + tx) (nI c) (nI R) n' _ (nI (i + 1)) _
        rw [fX6_takeColour_L77, rdC (show R < LC 28 by show R < 8; omega), q1 28 (by omega), g1, if_neg (nI_ge hi (by omega)), rdC (show c < LC 18 by show c < 8; omega), h18, nI_add, rdC (show s c + i < LC (13 + tx) by rw [LC_text htx]; omega), hT, h97, show (7 : Int32) = nI 7 from rfl, pk_mul, nI_add, show R * 7 + i = 7 * R + i by omega, wrC (show 7 * R + i < LC 27 by show _ < 56; omega), nI_1]) (l c) 0 10000 ρ1 (by omega) (by omega) ⟨fun _ _ => rfl, rfl, fun j hj => absurd hj (by omega), fun _ _ => rfl⟩
  obtain ⟨ρ', ⟨q1, q2, q3, q4⟩, e⟩ := L
  refine ⟨ρ', ?_, ⟨fun k hk => ?_, ?_⟩, ?_, ⟨?_, ?_, ?_, q3⟩, fun r hr => ⟨⟨?_, ?_, ?_⟩, fun j hj => ?_⟩⟩
  · unfold fX6_takeColour
    rw [rankC htx hn xC hR h8 F h6 hc, eR, rdC (show c < LC 19 by show c < 8; omega), F.1 19 (by omega), n2, wrC (show R < LC 28 by show R < 8; omega), rdC (show c < LC 20 by show c < 8; omega), su_o (by omega), F.1 20 (by omega), p1, wrC (show R < LC 29 by show R < 8; omega), rdC (show c < LC 21 by show c < 8; omega), su_o (by omega), su_o (by omega), F.1 21 (by omega), p2, wrC (show R < LC 30 by show R < 8; omega), ← e1]
    exact e
  · rw [q1 k (by omega), f1 k (by omega) (by omega) (by omega), F.1 k hk]
  · rw [q2, e1]
    exact F.2
  · rw [q1 26 (by omega), f1 26 (by omega) (by omega) (by omega)]
  · rw [q1 28 (by omega), g1]
  · rw [q1 29 (by omega), g2]
  · rw [q1 30 (by omega), g3]
  · rw [q1 28 (by omega), e1, su_o (by omega), su_o (by omega), su_11, if_neg (by omega)]
  · rw [q1 29 (by omega), e1, su_o (by omega), su_11, if_neg (by omega), su_o (by omega)]
  · rw [q1 30 (by omega), e1, su_11, if_neg (by omega), su_o (by omega), su_o (by omega)]
  · rw [q4 _ (by omega), f1 27 (by omega) (by omega) (by omega)]
theorem takesC (htx : tx < 4) (hn : n ≤ 90) (xC : TxC τ tx T) (hR : Rdd T n τ σ nc s l a p q) (h8 : nc ≤ 8) (hD : ∀ c d, c < d → d < nc → ¬ cmpS (nmA l a c) (nmA l a d) 0 7 = 0) {nh : Nat} (hh : nh ≤ 6) {k v : Nat → Nat} (hK : ∀ h, h < nh → τ.1 22 h = nI (k h) ∧ τ.1 23 h = nI (v h)) (c7 : τ.1 17 7 = nI nh) (c6 : τ.1 17 6 = nI nc) : ∃ ρ, fX6_take τ (13 + tx) = some (ρ, ()) ∧ FtC τ ρ ∧ ρ.1 26 6 = nI nc ∧ ρ.1 26 7 = nI nh ∧ (∀ c, c < nc → PosC ρ l a p q (rkN (nmA l a) nc c) c) ∧ ∀ h, h < nh → ρ.1 31 h = nI (k h) ∧ ρ.1 32 h = nI (v h) := by
  obtain ⟨ρ0, e0⟩ : ∃ x, x = su (su τ 26 6 (nI nc)) 26 7 (nI nh) := ⟨_, rfl⟩
  have F0 : FtC τ ρ0 := by
    rw [e0]
    exact ⟨fun k hk => by rw [su_o (by omega), su_o (by omega)], rfl⟩
  have a6 : ρ0.1 26 6 = nI nc := by rw [e0, su_11, if_neg (by omega), su_11, if_pos ⟨rfl, rfl⟩]
  have a7 : ρ0.1 26 7 = nI nh := by rw [e0, su_11, if_pos ⟨rfl, rfl⟩]
  have L := iloop (fun n' σ i k => fX6_take_L18 (13 + tx) n' σ i k) nc (fun c ρ => FtC τ ρ ∧ ρ.1 26 = ρ0.1 26 ∧ ∀ d, d < c → PosC ρ l a p q (rkN (nmA l a) nc d) d) (fun σ7 v8 => fX6_take_L41 10000 σ7 0 (fun σ15 v16 => some (σ15, ()))) (fun n' ρ hI => by
      show fX6_take_L18 (13 + tx) (n' + 1) ρ (nI nc) _ = _
      rw [fX6_take_L18, hI.2.1, a6, if_pos (nI_le (by omega) (by omega))]) (fun n' ρ c hc hI => by
      obtain ⟨q1, q2, q3⟩ := hI
      have h6 : ρ.1 26 6 = nI nc := by rw [q2]; exact a6
      obtain ⟨ρ', r1, r2, r3, r4, r5⟩ := takeC htx hn xC hR h8 q1 h6 hc rfl
      refine ⟨ρ', ⟨r2, r3.trans q2, fun d hd => ?_⟩, ?_⟩
      · by_cases z : d = c
        · rw [z]
          exact r4
        · have ne : rkN (nmA l a) nc d ≠ rkN (nmA l a) nc c := fun e => z (rkN_inj hD (by omega) hc e)
          obtain ⟨⟨w1, w2, w3⟩, w4⟩ := r5 _ ne
          obtain ⟨y1, y2, y3, y4⟩ := q3 d (by omega)
          have l7 := (hR d (by omega)).1.1.2.1
          exact ⟨w1.trans y1, w2.trans y2, w3.trans y3, fun j hj => (w4 j (by omega)).trans (y4 j hj)⟩
      · show fX6_take_L18 (13 + tx) (n' + 1) ρ (nI c) _ = fX6_take_L18 (13 + tx) n' ρ' (nI (c + 1)) _
        rw [fX6_take_L18, h6, if_neg (nI_ge hc (by omega)), r1, cl_s, nI_1]) nc 0 10000 ρ0 (by omega) (by omega) ⟨F0, rfl, fun d hd => absurd hd (by omega)⟩
  obtain ⟨ρ1, ⟨q1, q2, q3⟩, e⟩ := L
  have L2 := iloop (fun n' σ i k => fX6_take_L41 n' σ i k) nh (fun h ρ => (∀ x, x ≠ 31 → x ≠ 32 → ρ.1 x = ρ1.1 x) ∧ ρ.2 = ρ1.2 ∧ ∀ x, x < h → ρ.1 31 x = nI (k x) ∧ ρ.1 32 x = nI (v x)) (fun σ15 v16 => some (σ15, ())) (fun n' ρ hI => by
      show fX6_take_L41 (n' + 1) ρ (nI nh) _ = _
      rw [fX6_take_L41, hI.1 26 (by omega) (by omega), q2, a7, if_pos (nI_le (by omega) (by omega))]) (fun n' ρ h hh' hI => by
      obtain ⟨g1, g2, g3⟩ := hI
      have b1 : ρ.1 22 h = nI (k h) := by rw [g1 22 (by omega) (by omega), q1.1 22 (by omega)]; exact (hK h hh').1
      have b2 : (su ρ 31 h (nI (k h))).1 23 h = nI (v h) := by rw [su_o (by omega), g1 23 (by omega) (by omega), q1.1 23 (by omega)]; exact (hK h hh').2
      refine ⟨su (su ρ 31 h (nI (k h))) 32 h (nI (v h)), ⟨fun x y z => by rw [su_o z, su_o y, g1 x y z], g2, fun x hx => ?_⟩, ?_⟩
      · rw [su_o (show 31 ≠ 32 by omega), su_11, su_11]
        by_cases z : x = h
        · rw [if_pos ⟨rfl, z⟩, if_pos ⟨rfl, z⟩, z]
          exact ⟨rfl, rfl⟩
        · rw [if_neg (by omega), if_neg (by omega), su_o (by omega)]
          exact g3 x (by omega)
      · show fX6_take_L41 (n' + 1) ρ (nI h) _ = fX6_take_L41 n' _ (nI (h + 1)) _
        rw [fX6_take_L41, g1 26 (by omega) (by omega), q2, a7, if_neg (nI_ge hh' (by omega)), rdC (show h < LC 22 by show h < 6; omega), b1, wrC (show h < LC 31 by show h < 6; omega), rdC (show h < LC 23 by show h < 6; omega), b2, wrC (show h < LC 32 by show h < 6; omega), nI_1]) nh 0 10000 ρ1 (by omega) (by omega) ⟨fun _ _ _ => rfl, rfl, fun x hx => absurd hx (by omega)⟩
  obtain ⟨ρ, ⟨g1, g2, g3⟩, e2⟩ := L2
  refine ⟨ρ, ?_, ⟨fun x hx => ?_, g2.trans q1.2⟩, ?_, ?_, fun c hc => ?_, g3⟩
  · unfold fX6_take
    have c7' : (su τ 26 6 (nI nc)).1 17 7 = nI nh := by rw [su_o (by omega)]; exact c7
    rw [c6, pt_s, c7', pt_s, ← e0]
    exact e.trans e2
  · rw [g1 x (by omega) (by omega), q1.1 x hx]
  · rw [g1 26 (by omega) (by omega), q2]
    exact a6
  · rw [g1 26 (by omega) (by omega), q2]
    exact a7
  · unfold PosC
    rw [g1 28 (by omega) (by omega), g1 29 (by omega) (by omega), g1 30 (by omega) (by omega), g1 27 (by omega) (by omega)]
    exact q3 c hc
-- the reference
theorem rankM (hR : Rdd T n τ σ nc s l a p q) (h8 : nc ≤ 8) {ρ : St} (e18 : ρ.1 18 = σ.1 18) (h7 : ρ.1 0 7 = nI nc) {c : Nat} (hc : c < nc) (kk : St → Int32 → Int32 → Option (St × Int32)) : fX11_town_L143 (nI c) 10000 ρ 0 0 kk = kk ρ (nI (rkN (nmA l a) nc c)) (nI nc) := by
  have L : ∀ (m e f : Nat), e + m = nc → m < f → fX11_town_L143 (nI c) f ρ (nI (rk (ltN (nmA l a) c) e)) (nI e) kk = kk ρ (nI (rkN (nmA l a) nc c)) (nI nc) := by
    intro m
    induction m with
    | zero =>
      intro e f he hf
      match f, hf with
      | f + 1, _ =>
        rw [fX11_town_L143, h7, if_pos (nI_le (by omega) (by omega)), show e = nc by omega]
        rfl
    | succ m ih =>
      intro e f he hf
      match f, hf with
      | f + 1, hf =>
        have ih' := ih (e + 1) f (by omega) (by omega)
        rw [show rk (ltN (nmA l a) c) (e + 1) = rk (ltN (nmA l a) c) e + (if ltN (nmA l a) c e then 1 else 0) from rfl] at ih'
        have hA : ∀ c, c < nc → ∀ j, j < 7 → nmA l a c j < 1000 ∧ ρ.1 18 (7 * c + j) = nI (nmA l a c j) := fun c hc j hj => by
          rw [e18]
          exact ⟨pd_lt (fun x hx => ((hR c hc).1.2.2.2.1 x hx).1) j, (hR c hc).1.2.2.2.2 j hj⟩
        have r1 := isAheadM (σ := ρ) (p0 := 18) (p2 := 18) (o1 := 7 * e) (o2 := 7 * c) (hA e (by omega)) (hA c hc) (by show _ ≤ 63; omega) (by show _ ≤ 63; omega)
        rw [fX11_town_L143, h7, if_neg (nI_ge (by omega) (by omega)), show (7 : Int32) = nI 7 from rfl, pk_mul, pk_mul, r1, cl_s, nI_1]
        by_cases w : cmpS (nmA l a e) (nmA l a c) 0 7 < 0
        · rw [if_pos w, if_neg (show ¬ (1 : Int32) = 0 by decide), pv_s, nI_1]
          rw [show ltN (nmA l a) c e = true from decide_eq_true w, if_pos rfl] at ih'
          exact ih'
        · rw [if_neg w, if_pos rfl, pv_s, Int32.add_zero]
          rw [show ltN (nmA l a) c e = false from decide_eq_false w, if_neg (by decide)] at ih'
          exact ih'
  exact L nc 0 10000 (by omega) (by omega)
def PosM (ρ : St) (l : Nat → Nat) (a : Nat → Nat → Nat) (p q : Nat → Nat) (R c : Nat) : Prop := ρ.1 8 R = nI (p c) ∧ ρ.1 9 R = nI (q c) ∧ ∀ j, j < 7 → ρ.1 7 (7 * R + j) = nI (pd 97 (l c) (a c) j)
theorem coloursM (hR : Rdd T n τ σ nc s l a p q) (h8 : nc ≤ 8) (hD : ∀ c d, c < d → d < nc → ¬ cmpS (nmA l a c) (nmA l a d) 0 7 = 0) {ρ0 : St} (e18 : ∀ k, 18 ≤ k → k ≤ 20 → ρ0.1 k = σ.1 k) (h7 : ρ0.1 0 7 = nI nc) (kk : St → Int32 → Option (St × Int32)) : ∃ ρ, (∀ k, k < 7 ∨ 9 < k → ρ.1 k = ρ0.1 k) ∧ ρ.2 = ρ0.2 ∧ (∀ c, c < nc → PosM ρ l a p q (rkN (nmA l a) nc c) c) ∧ fX11_town_L130 10000 ρ0 0 kk = kk ρ (nI nc) := by
  have L := iloop (fun n' σ i k => fX11_town_L130 n' σ i k) nc (fun c ρ => (∀ k, k < 7 ∨ 9 < k → ρ.1 k = ρ0.1 k) ∧ ρ.2 = ρ0.2 ∧ ∀ d, d < c → PosM ρ l a p q (rkN (nmA l a) nc d) d) kk (fun n' ρ hI => by
      show fX11_town_L130 (n' + 1) ρ (nI nc) kk = _
      rw [fX11_town_L130, hI.1 0 (by omega), h7, if_pos (nI_le (by omega) (by omega))]) (fun n' ρ c hc hI => by
      obtain ⟨q1, q2, q3⟩ := hI
      obtain ⟨R, eR⟩ : ∃ R, R = rkN (nmA l a) nc c := ⟨_, rfl⟩
      have R8 : R < nc := by
        rw [eR]
        exact rkN_lt hc
      have y7 : ρ.1 0 7 = nI nc := by rw [q1 0 (by omega)]; exact h7
      have y18 : ρ.1 18 = σ.1 18 := (q1 18 (by omega)).trans (e18 18 (by omega) (by omega))
      obtain ⟨⟨-, -, -, -, n5⟩, -, -, p1, -, p2⟩ := hR c hc
      have cp := copiesM (σ := ρ) (a := 18) (b := 7) (i := 7 * c) (j := 7 * R) (n := 7) (by omega) (by show _ ≤ 63; omega) (by show _ ≤ 56; omega) (by omega)
      obtain ⟨ρ1, e1⟩ : ∃ x, x = sc ρ 7 (fun q => if 7 * R ≤ q ∧ q < 7 * R + 7 then ρ.1 18 (7 * c + (q - 7 * R)) else ρ.1 7 q) := ⟨_, rfl⟩
      rw [← e1] at cp
      have b1 : ρ1.1 19 c = nI (p c) := by rw [e1, sc_o (by omega), q1 19 (by omega), e18 19 (by omega) (by omega)]; exact p1
      have b2 : (su ρ1 8 R (nI (p c))).1 20 c = nI (q c) := by rw [su_o (by omega), e1, sc_o (by omega), q1 20 (by omega), e18 20 (by omega) (by omega)]; exact p2
      refine ⟨su (su ρ1 8 R (nI (p c))) 9 R (nI (q c)), ⟨fun k hk => ?_, ?_, fun d hd => ?_⟩, ?_⟩
      · rw [su_o (by omega), su_o (by omega), e1, sc_o (by omega), q1 k hk]
      · show ρ1.2 = ρ0.2
        rw [e1]
        exact q2
      · by_cases z : d = c
        · rw [z, ← eR]
          refine ⟨?_, ?_, fun j hj => ?_⟩
          · rw [su_o (by omega), su_11, if_pos ⟨rfl, rfl⟩]
          · rw [su_11, if_pos ⟨rfl, rfl⟩]
          · rw [su_o (by omega), su_o (by omega), e1, sc_s, if_pos (by omega), show 7 * c + (7 * R + j - 7 * R) = 7 * c + j by omega, y18]
            exact n5 j hj
        · have ne : rkN (nmA l a) nc d ≠ R := fun e => z (rkN_inj hD (by omega) hc (e.trans eR))
          obtain ⟨w1, w2, w3⟩ := q3 d (by omega)
          refine ⟨?_, ?_, fun j hj => ?_⟩
          · rw [su_o (by omega), su_11, if_neg (fun x => ne x.2), e1, sc_o (by omega)]
            exact w1
          · rw [su_11, if_neg (fun x => ne x.2), su_o (by omega), e1, sc_o (by omega)]
            exact w2
          · rw [su_o (by omega), su_o (by omega), e1, sc_s, if_neg (by omega)]
            exact w3 j hj
      · show fX11_town_L130 (n' + 1) ρ (nI c) kk = fX11_town_L130 n' _ (nI (c + 1)) kk
        rw [fX11_town_L130, y7, if_neg (nI_ge hc (by omega)), rankM hR h8 y18 y7 hc, ← eR, show (7 : Int32) = nI 7 from rfl, pk_mul, pk_mul, cp, cl_s, rdM (show c < LM 19 by show c < 9; omega), b1, wrM (show R < LM 8 by show R < 8; omega), rdM (show c < LM 20 by show c < 9; omega), b2, wrM (show R < LM 9 by show R < 8; omega), nI_1]) nc 0 10000 ρ0 (by omega) (by omega) ⟨fun _ _ => rfl, rfl, fun d hd => absurd hd (by omega)⟩
  obtain ⟨ρ, ⟨q1, q2, q3⟩, e⟩ := L
  exact ⟨ρ, q1, q2, q3, e⟩
end TK
theorem zeroT {ρ0 : St} (kk : St → Int32 → Option (St × Int32)) : ∃ ρ, eqB 10 ρ0 ρ ∧ (∀ j, j < 55 → ρ.1 10 j = nI 0) ∧ fX11_town_L55 10000 ρ0 0 kk = kk ρ (nI 55) := by
  have L := iloop (fun n' σ i k => fX11_town_L55 n' σ i k) 55 (fun i ρ => eqB 10 ρ0 ρ ∧ ∀ j, j < i → ρ.1 10 j = nI 0) kk (fun n' ρ hI => by
      show fX11_town_L55 (n' + 1) ρ (nI 55) kk = _
      rw [fX11_town_L55, if_pos (show (55 : Int32) ≤ nI 55 by decide)]) (fun n' ρ i hi hI => by
      obtain ⟨q1, q2⟩ := hI
      refine ⟨su ρ 10 i (nI 0), ⟨q1.trans eqB.w, fun j hj => ?_⟩, ?_⟩
      · rw [su_11]
        by_cases z : j = i
        · rw [if_pos ⟨rfl, z⟩]
        · rw [if_neg (by omega)]
          exact q2 j (by omega)
      · show fX11_town_L55 (n' + 1) ρ (nI i) kk = fX11_town_L55 n' _ (nI (i + 1)) kk
        rw [fX11_town_L55, if_neg (show ¬ (55 : Int32) ≤ nI i from nI_ge (b := 55) hi (by omega)), wrM (show i < LM 10 by show i < 55; omega), nI_1]
        rfl) 55 0 10000 ρ0 (by omega) (by omega) ⟨eqB.rf 10 ρ0, fun j hj => absurd hj (by omega)⟩
  obtain ⟨ρ, ⟨q1, q2⟩, e⟩ := L
  exact ⟨ρ, q1, q2, e⟩
theorem housesM {ρ0 : St} {nh : Nat} {k v : Nat → Nat} (hh : nh ≤ 6) (hK : ∀ h, h < nh → ρ0.1 16 h = nI (k h) ∧ ρ0.1 17 h = nI (v h)) (h4 : ρ0.1 0 4 = nI nh) (z : ∀ j, j < 55 → ρ0.1 10 j = nI 0) (kk : St → Int32 → Option (St × Int32)) : ∃ ρ, (∀ x, x ≠ 5 → x ≠ 6 → x ≠ 10 → ρ.1 x = ρ0.1 x) ∧ ρ.2 = ρ0.2 ∧ (∀ h, h < nh → ρ.1 5 h = nI (k h) ∧ ρ.1 6 h = nI (v h)) ∧ (∀ j, j < 55 → ρ.1 10 j = nI (if 1 ≤ j ∧ j < 1 + nh then v (j - 1) else 0)) ∧ fX11_town_L76 10000 ρ0 0 kk = kk ρ (nI nh) := by
  have L := iloop (fun n' σ i k => fX11_town_L76 n' σ i k) nh (fun h ρ => (∀ x, x ≠ 5 → x ≠ 6 → x ≠ 10 → ρ.1 x = ρ0.1 x) ∧ ρ.2 = ρ0.2 ∧ (∀ x, x < h → ρ.1 5 x = nI (k x) ∧ ρ.1 6 x = nI (v x)) ∧ ∀ j, j < 55 → ρ.1 10 j = nI (if 1 ≤ j ∧ j < 1 + h then v (j - 1) else 0)) kk (fun n' ρ hI => by
      show fX11_town_L76 (n' + 1) ρ (nI nh) kk = _
      rw [fX11_town_L76, hI.1 0 (by omega) (by omega) (by omega), h4, if_pos (nI_le (by omega) (by omega))]) (fun n' ρ h hh' hI => by
      obtain ⟨q1, q2, q3, q4⟩ := hI
      have b1 : ρ.1 16 h = nI (k h) := by rw [q1 16 (by omega) (by omega) (by omega)]; exact (hK h hh').1
      have b2 : (su ρ 5 h (nI (k h))).1 17 h = nI (v h) := by rw [su_o (by omega), q1 17 (by omega) (by omega) (by omega)]; exact (hK h hh').2
      have b3 : (su (su ρ 5 h (nI (k h))) 6 h (nI (v h))).1 6 h = nI (v h) := by rw [su_11, if_pos ⟨rfl, rfl⟩]
      refine ⟨su (su (su ρ 5 h (nI (k h))) 6 h (nI (v h))) 10 (1 + h) (nI (v h)), ⟨fun x a b c => by rw [su_o c, su_o b, su_o a, q1 x a b c], q2, fun x hx => ?_, fun j hj => ?_⟩, ?_⟩
      · rw [su_o (show 5 ≠ 10 by omega), su_o (show 6 ≠ 10 by omega), su_o (show 5 ≠ 6 by omega), su_11, su_11]
        by_cases y : x = h
        · rw [if_pos ⟨rfl, y⟩, if_pos ⟨rfl, y⟩, y]
          exact ⟨rfl, rfl⟩
        · rw [if_neg (by omega), if_neg (by omega), su_o (by omega)]
          exact q3 x (by omega)
      · rw [su_11]
        by_cases y : j = 1 + h
        · rw [if_pos ⟨rfl, y⟩, if_pos (by omega), y, Nat.add_sub_cancel_left]
        · rw [if_neg (by omega), su_o (by omega), su_o (by omega), q4 j hj]
          by_cases w : 1 ≤ j ∧ j < 1 + h
          · rw [if_pos w, if_pos (by omega)]
          · rw [if_neg w, if_neg (by omega)]
      · show fX11_town_L76 (n' + 1) ρ (nI h) kk = fX11_town_L76 n' _ (nI (h + 1)) kk
        rw [fX11_town_L76, q1 0 (by omega) (by omega) (by omega), h4, if_neg (nI_ge hh' (by omega)), rdM (show h < LM 16 by show h < 6; omega), b1, wrM (show h < LM 5 by show h < 6; omega), rdM (show h < LM 17 by show h < 6; omega), b2, wrM (show h < LM 6 by show h < 6; omega), rdM (show h < LM 6 by show h < 6; omega), b3, n_1p, wrM (show 1 + h < LM 10 by show _ < 55; omega), nI_1]) nh 0 10000 ρ0 (by omega) (by omega) ⟨fun _ _ _ _ => rfl, rfl, fun x hx => absurd hx (by omega), fun j hj => by rw [if_neg (by omega)]; exact z j hj⟩
  obtain ⟨ρ, ⟨q1, q2, q3, q4⟩, e⟩ := L
  exact ⟨ρ, q1, q2, q3, q4, e⟩
theorem unkeepM {ρ0 : St} (kk : St → Int32 → Option (St × Int32)) : ∃ ρ, eqB 14 ρ0 ρ ∧ (∀ j, j < 3 → ρ.1 14 j = 0) ∧ fX11_town_L247 10000 ρ0 0 kk = kk ρ (nI 3) := by
  have L := iloop (fun n' σ i k => fX11_town_L247 n' σ i k) 3 (fun i ρ => eqB 14 ρ0 ρ ∧ ∀ j, j < i → ρ.1 14 j = 0) kk (fun n' ρ hI => by
      show fX11_town_L247 (n' + 1) ρ (nI 3) kk = _
      rw [fX11_town_L247, if_pos (show (3 : Int32) ≤ nI 3 by decide)]) (fun n' ρ i hi hI => by
      obtain ⟨q1, q2⟩ := hI
      refine ⟨su ρ 14 i 0, ⟨q1.trans eqB.w, fun j hj => ?_⟩, ?_⟩
      · rw [su_11]
        by_cases z : j = i
        · rw [if_pos ⟨rfl, z⟩]
        · rw [if_neg (by omega)]
          exact q2 j (by omega)
      · show fX11_town_L247 (n' + 1) ρ (nI i) kk = fX11_town_L247 n' _ (nI (i + 1)) kk
        rw [fX11_town_L247, if_neg (show ¬ (3 : Int32) ≤ nI i from nI_ge (b := 3) hi (by omega)), gd_inb hi (by omega), pt_s, nI_clamp (by omega), nI_1]) 3 0 10000 ρ0 (by omega) (by omega) ⟨eqB.rf 14 ρ0, fun j hj => absurd hj (by omega)⟩
  obtain ⟨ρ, ⟨q1, q2⟩, e⟩ := L
  exact ⟨ρ, q1, q2, e⟩
def mkP (nh nc : Nat) (k v p q l : Nat → Nat) (a : Nat → Nat → Nat) (g : Nat → Nat) : Pl := fun x y => if x = 0 then (if y = 0 then nh else nc) else if x = 1 then k y else if x = 2 then v y else if x = 3 then p (g y) else if x = 4 then q (g y) else if x = 5 then l (g y) else a (g (y / 7)) (y % 7)
theorem mkP_nm {nh nc : Nat} {k v p q l : Nat → Nat} {a : Nat → Nat → Nat} {g : Nat → Nat} {c i : Nat} (hi : i < 7) : nm (mkP nh nc k v p q l a g) c i = a (g c) i := by
  show a (g ((7 * c + i) / 7)) ((7 * c + i) % 7) = a (g c) i
  rw [show (7 * c + i) / 7 = c by omega, show (7 * c + i) % 7 = i by omega]
theorem beginL {τ : St} {P : Pl} (hP : PlanOk P) (hC : PlC τ P) : ∃ τ', fX3_begin τ = some (τ', ()) ∧ (∀ k, k ≠ 24 → k ≠ 25 → k ≠ 33 → k ≠ 34 → k ≠ 40 → τ'.1 k = τ.1 k) ∧ τ'.2 = τ.2 ∧ τ'.1 24 4 = nI 0 ∧ (∀ k, k < 3 → τ'.1 40 k = -1) ∧ TwC τ' P (beginT P) := by
  obtain ⟨τ1, e1⟩ : ∃ x, x = sc (su τ 24 4 0) 40 (fun j => if j < LC 40 then -1 else (su τ 24 4 0).1 40 j) := ⟨_, rfl⟩
  have kC : ∀ k, 25 ≤ k → k < 35 → τ1.1 k = τ.1 k := fun k a b => by rw [e1, sc_o (by omega), su_o (by omega)]
  obtain ⟨τ', b1, b2, b3⟩ := beginC hP (plan_of kC hC)
  refine ⟨τ', ?_, fun k x1 x2 x3 x4 x5 => ?_, ?_, ?_, fun k hk => ?_, b3⟩
  · unfold fX3_begin
    rw [pt_s, fill_ev _ 40 (-1) (by decide) (by decide), cl_s, ← e1, b1, cl_s]
  · rw [b2.1 k x2 x3 x4, e1, sc_o x5, su_o x1]
  · rw [b2.2, e1]
    rfl
  · rw [b2.1 24 (by omega) (by omega) (by omega), e1, sc_o (by omega), su_11, if_pos ⟨rfl, rfl⟩]
    rfl
  · rw [b2.1 40 (by omega) (by omega) (by omega), e1, sc_s, if_pos (show k < LC 40 from hk)]
theorem plan_26 {τ τ' : St} (h : ∀ k, 26 ≤ k → k < 33 → τ'.1 k = τ.1 k) {P : Pl} (hC : PlC τ P) : PlC τ' P := by
  unfold PlC
  rw [h 26 (by omega) (by omega), h 31 (by omega) (by omega), h 32 (by omega) (by omega), h 29 (by omega) (by omega), h 30 (by omega) (by omega), h 28 (by omega) (by omega), h 27 (by omega) (by omega)]
  exact hC
theorem s_town (τ σ : St) (h : Rel τ σ) (a1 : Int32) : ∃ (τ' σ' : St) (r : Int32), fX10_town τ a1 = some (τ', r) ∧ fX11_town σ a1 = some (σ', r) ∧ Rel τ' σ' := by
  unfold fX10_town fX11_town
  rcases ix_cases a1 4 (by omega) with ⟨tx, hr, rfl⟩ | hbad
  case inr =>
    rw [isOne10_no τ hbad, isText_no σ hbad]
    exact ⟨_, _, _, rfl, rfl, h⟩
  rw [isOne10_yes τ hr, isText_yes σ hr]
  simp only [cl_s, o10, if_false]
  obtain ⟨q1, q2, q3⟩ := h.2.2.1 tx hr
  rw [rdM (show tx < LM 3 from hr)]
  rcases q2 with q2 | ⟨n, hn, q2⟩
  · rw [miss10_y τ hr (q1.trans q2), q2, cl_s, if_neg (show ¬ (1 : Int32) = 0 by decide), if_neg (show ¬ (0 : Int32) ≤ -1 by decide), L_1, refu_ev τ (by omega), fnd_ev σ (by omega)]
    exact ⟨_, _, _, rfl, rfl, h.found (by omega)⟩
  obtain ⟨T, eT⟩ : ∃ T, T = τ.1 (13 + tx) := ⟨_, rfl⟩
  have xC : TxC τ tx T := fun i _ => by rw [eT]
  have xM : TxM σ tx n T := ⟨q2, fun i hi => by rw [eT]; exact (q3 i hi).symm⟩
  obtain ⟨τ1, σ1, x, e1, e2, e3, e4, e5⟩ := readsR (τ := τ) (σ := σ) (T := T) hr hn xC xM
  rw [miss10_n τ hr (by omega) (q1.trans q2), q2, cl_s, if_pos rfl, if_pos (nle0 (by omega)), cellsOf10 τ hr, cl_s, sizeOf10 τ hr (q1.trans q2), cl_s, e1, cl_s, e2, cl_s]
  by_cases z : x = -9
  case neg =>
    rw [if_neg z, if_neg z]
    exact ⟨_, _, _, rfl, rfl, h.fr (fun k hk => e3.1 k (by omega)) e3.2 (fun k a b c => e4.1 k a b) (fun j hj => e4.2.1 j hj) e4.2.2⟩
  rw [if_pos z, if_pos z, cellsOf10 τ1 hr, cl_s]
  obtain ⟨nh, nc, ⟨⟨b6, b8, -⟩, ⟨c7, c6, c8⟩, ⟨m22, m23, m26⟩, hH, hCo, hDs⟩, h2, h1⟩ := e5 z
  obtain ⟨K, hK⟩ := chA (0, 0) (p := fun h (w : Nat × Nat) => (w.1 < 6 ∧ w.2 ≤ 9) ∧ τ1.1 22 h = nI w.1 ∧ σ1.1 16 h = nI w.1 ∧ τ1.1 23 h = nI w.2 ∧ σ1.1 17 h = nI w.2) (n := nh) (fun h hh => by
    obtain ⟨k, v, w⟩ := hH h hh
    exact ⟨(k, v), w⟩)
  obtain ⟨N, hN⟩ := chA ((0, 0), fun _ => 0) (p := fun c (w : (Nat × Nat) × (Nat → Nat)) => NmR T τ1 σ1 n c w.1.1 w.1.2 w.2) (n := nc) (fun c hc => by
    obtain ⟨⟨s, l, a, w⟩, -⟩ := hCo c hc
    exact ⟨((s, l), a), w⟩)
  obtain ⟨Q, hQ⟩ := chA (0, 0) (p := fun c (w : Nat × Nat) => PrR τ1 σ1 c w.1 w.2) (n := nc) (fun c hc => by
    obtain ⟨-, p, q, w⟩ := hCo c hc
    exact ⟨(p, q), w⟩)
  obtain ⟨k, ek⟩ : ∃ k : Nat → Nat, k = fun h => (K h).1 := ⟨_, rfl⟩
  obtain ⟨v, ev⟩ : ∃ v : Nat → Nat, v = fun h => (K h).2 := ⟨_, rfl⟩
  obtain ⟨s, es⟩ : ∃ s : Nat → Nat, s = fun c => (N c).1.1 := ⟨_, rfl⟩
  obtain ⟨l, el⟩ : ∃ l : Nat → Nat, l = fun c => (N c).1.2 := ⟨_, rfl⟩
  obtain ⟨a, ea⟩ : ∃ a : Nat → Nat → Nat, a = fun c => (N c).2 := ⟨_, rfl⟩
  obtain ⟨p, ep⟩ : ∃ p : Nat → Nat, p = fun c => (Q c).1 := ⟨_, rfl⟩
  obtain ⟨q, eq⟩ : ∃ q : Nat → Nat, q = fun c => (Q c).2 := ⟨_, rfl⟩
  have kv : ∀ h, h < nh → (k h < 6 ∧ v h ≤ 9) ∧ τ1.1 22 h = nI (k h) ∧ σ1.1 16 h = nI (k h) ∧ τ1.1 23 h = nI (v h) ∧ σ1.1 17 h = nI (v h) := fun h hh => by
    rw [ek, ev]
    exact hK h hh
  have hR : Rdd T n τ1 σ1 nc s l a p q := fun c hc => by
    rw [es, el, ea, ep, eq]
    exact ⟨hN c hc, hQ c hc⟩
  have hD : ∀ c d, c < d → d < nc → ¬ cmpS (nmA l a c) (nmA l a d) 0 7 = 0 := fun c d hcd hd w => by
    obtain ⟨j, hj, ne⟩ := hDs c d hcd hd
    refine ne ?_
    rw [(hR c (by omega)).1.2.2.2.2 j hj, (hR d hd).1.2.2.2.2 j hj]
    exact congrArg nI (cmpS_inv 7 0 w j (by omega) (by omega))
  obtain ⟨g, hg⟩ := chA 0 (p := fun r c => c < nc ∧ rkN (nmA l a) nc c = r) (n := nc) (fun r hr' => surj nc (rkN (nmA l a) nc) (fun c hc => rkN_lt hc) (fun c d hc hd w => rkN_inj hD hc hd w) r hr')
  obtain ⟨P, eP⟩ : ∃ P, P = mkP nh nc k v p q l a g := ⟨_, rfl⟩
  have pHe : pH P = nh := by rw [eP]; rfl
  have pCe : pC P = nc := by rw [eP]; rfl
  have kde : ∀ h, kd P h = k h := fun h => by rw [eP]; rfl
  have ice : ∀ h, ic P h = v h := fun h => by rw [eP]; rfl
  have pre : ∀ c, pr P c = p (g c) := fun c => by rw [eP]; rfl
  have lae : ∀ c, la P c = q (g c) := fun c => by rw [eP]; rfl
  have lne : ∀ c, ln P c = l (g c) := fun c => by rw [eP]; rfl
  have nme : ∀ c i, i < 7 → nm P c i = a (g c) i := fun c i hi => by rw [eP]; exact mkP_nm hi
  have hP : PlanOk P := by
    unfold PlanOk
    rw [pHe, pCe]
    refine ⟨b6, b8, Or.inr ⟨h2, h1⟩, fun h hh => ?_, fun c hc => ?_⟩
    · rw [kde, ice]
      exact (kv h hh).1
    · obtain ⟨gc, -⟩ := hg c hc
      obtain ⟨⟨l1, -, -, l2, -⟩, p1, -⟩ := hR (g c) gc
      rw [pre, lae, lne]
      exact ⟨⟨p1.1, p1.2.1⟩, ⟨p1.2.2.1, p1.2.2.2⟩, ⟨l1.1, l1.2.1⟩, fun i hi => by
        rw [nme c i (by omega)]
        exact (l2 i hi).1⟩
  have xC1 := e3.tx hr xC
  obtain ⟨τ2, t1, t2, t3, t4, t5, t6⟩ := takesC hr hn xC1 hR b8 hD b6 (k := k) (v := v) (fun h hh => ⟨(kv h hh).2.1, (kv h hh).2.2.2.1⟩) c7 c6
  have hC : PlC τ2 P := by
    unfold PlC
    rw [pHe, pCe]
    refine ⟨t4, t3, fun h hh => ?_, fun c hc => ?_⟩
    · rw [kde, ice]
      exact t6 h hh
    · obtain ⟨gc, gr⟩ := hg c hc
      obtain ⟨w1, w2, w3, w4⟩ := t5 (g c) gc
      have l7 := (hR (g c) gc).1.1.2.1
      rw [gr] at w1 w2 w3 w4
      rw [pre, lae, lne]
      exact ⟨w2, w3, w1, fun i hi => by
        rw [nme c i (by omega)]
        exact w4 i hi⟩
  obtain ⟨τ3, u1, u2, u3, u4, u5, u6⟩ := beginL hP hC
  rw [t1, cl_s, u1, cl_s, pt_s, m23]
  obtain ⟨σ2, e6⟩ : ∃ x, x = su (su σ1 0 4 (nI nh)) 0 7 (nI nc) := ⟨_, rfl⟩
  have m26' : (su σ1 0 4 (nI nh)).1 0 26 = nI nc := by rw [su_11, if_neg (by omega)]; exact m26
  rw [pt_s, m26', ← e6]
  have f2 : ∀ k, k ≠ 0 → σ2.1 k = σ1.1 k := fun k hk => by rw [e6, su_o hk, su_o hk]
  have f20 : ∀ j, j ≠ 4 → j ≠ 7 → σ2.1 0 j = σ1.1 0 j := fun j a b => by rw [e6, su_11, if_neg (by omega), su_11, if_neg (by omega)]
  have f24 : σ2.1 0 4 = nI nh := by rw [e6, su_11, if_neg (by omega), su_11, if_pos ⟨rfl, rfl⟩]
  have f27 : σ2.1 0 7 = nI nc := by rw [e6, su_11, if_pos ⟨rfl, rfl⟩]
  obtain ⟨σ3, z1, z2, z3⟩ := zeroT (ρ0 := σ2) (fun σ11 _ => fX11_town_L76 10000 σ11 0 (fun σ21 v22 => fX11_town_L130 10000 σ21 0 (fun σ41 v42 => pt (su σ41 0 14 0) (fun σ43 => fX11_town_L247 10000 σ43 0 (fun σ47 v48 => some (σ47, σ47.1 0 4))))))
  obtain ⟨σ4, y1, y2, y3, y4, y5⟩ := housesM (ρ0 := σ3) (k := k) (v := v) b6 (fun h hh => by
    rw [z1.1 16 (by omega), z1.1 17 (by omega), f2 16 (by omega), f2 17 (by omega)]
    exact ⟨(kv h hh).2.2.1, (kv h hh).2.2.2.2⟩) (by rw [z1.1 0 (by omega)]; exact f24) z2 (fun σ21 _ => fX11_town_L130 10000 σ21 0 (fun σ41 v42 => pt (su σ41 0 14 0) (fun σ43 => fX11_town_L247 10000 σ43 0 (fun σ47 v48 => some (σ47, σ47.1 0 4)))))
  have y0 : σ4.1 0 = σ2.1 0 := (y1 0 (by omega) (by omega) (by omega)).trans (z1.1 0 (by omega))
  obtain ⟨σ5, w1, w2, w3, w4⟩ := coloursM hR b8 hD (ρ0 := σ4) (fun k a b => by rw [y1 k (by omega) (by omega) (by omega), z1.1 k (by omega), f2 k (by omega)]) (by rw [y0]; exact f27) (fun σ41 _ => pt (su σ41 0 14 0) (fun σ43 => fX11_town_L247 10000 σ43 0 (fun σ47 v48 => some (σ47, σ47.1 0 4))))
  obtain ⟨σ6, v1, v2, v3⟩ := unkeepM (ρ0 := su σ5 0 14 0) (fun σ47 _ => some (σ47, σ47.1 0 4))
  have s0 : ∀ j, j ≠ 14 → σ6.1 0 j = σ2.1 0 j := fun j hj => by rw [v1.1 0 (by omega), su_11, if_neg (by omega), w1 0 (by omega), y0]
  have sO : ∀ k, k ≠ 0 → k ≠ 5 → k ≠ 6 → k ≠ 7 → k ≠ 8 → k ≠ 9 → k ≠ 10 → k ≠ 14 → σ6.1 k = σ1.1 k := fun k x0 x5 x6 x7 x8 x9 x10 x14 => by
    rw [v1.1 k x14, su_o x0, w1 k (by omega), y1 k x5 x6 x10, z1.1 k x10, f2 k x0]
  have s59 : ∀ k, 5 ≤ k → k ≤ 6 → σ6.1 k = σ4.1 k := fun k a b => by rw [v1.1 k (by omega), su_o (by omega), w1 k (by omega)]
  have s79 : ∀ k, 7 ≤ k → k ≤ 9 → σ6.1 k = σ5.1 k := fun k a b => by rw [v1.1 k (by omega), su_o (by omega)]
  have s10 : σ6.1 10 = σ4.1 10 := by rw [v1.1 10 (by omega), su_o (by omega), w1 10 (by omega)]
  have s2 : σ6.2 = σ.2 := by
    rw [v1.2, su_2, w2, y2, z1.2, e6]
    exact e4.2.2
  have r4 : τ3.1 26 7 = nI nh := by rw [u2 26 (by omega) (by omega) (by omega) (by omega) (by omega)]; exact t4
  have s4 : σ6.1 0 4 = nI nh := (s0 4 (by omega)).trans f24
  refine ⟨τ3, σ6, nI nh, by rw [r4], ?_, ?_⟩
  · refine z3.trans (y5.trans (w4.trans ?_))
    show pt (su σ5 0 14 0) _ = _
    rw [pt_s]
    refine v3.trans ?_
    show some (σ6, σ6.1 0 4) = _
    rw [s4]
  have kC : ∀ k, k < 17 ∨ 40 < k → τ3.1 k = τ.1 k := fun k hk => by rw [u2 k (by omega) (by omega) (by omega) (by omega) (by omega), t2.1 k (by omega), e3.1 k (by omega)]
  have k2 : τ3.2 = τ.2 := u3.trans (t2.2.trans e3.2)
  have hC3 : PlC τ3 P := plan_26 (fun k a b => u2 k (by omega) (by omega) (by omega) (by omega) (by omega)) hC
  obtain ⟨⟨g1, g2, g3, g4, g5⟩, R2, R3, -⟩ := h
  refine ⟨⟨?_, ?_, fun f hf => ?_, ?_, ?_⟩, R2.fr (fun k a b => kC k (by omega)) (fun k a b => ?_), R3.fr (fun k a b => kC k (by omega)) (fun k a b => ?_), P, fun _ => 0, 0, hP, fun _ => rfl, hC3, ?_, ⟨by omega, fun i hi => absurd hi (by omega)⟩, u6, ?_, ⟨u4, ?_, fun i hi => absurd hi (by omega), fun i j hi => absurd hi (by omega)⟩, fun k hk => Or.inl ⟨u5 k hk, v2 k hk⟩⟩
  · rw [kC 0 (by omega), s0 17 (by omega), f20 17 (by omega) (by omega), e4.2.1 17 (by omega)]
    exact g1
  · rw [kC 0 (by omega), s0 20 (by omega), f20 20 (by omega) (by omega), e4.2.1 20 (by omega)]
    exact g2
  · rw [kC 51 (by omega), sO 15 (by omega) (by omega) (by omega) (by omega) (by omega) (by omega) (by omega) (by omega), e4.1 15 (by omega) (by omega)]
    exact g3 f hf
  · rw [k2, s2]
    exact g4
  · rw [k2, s2]
    exact g5
  · rw [sO k (by omega) (by omega) (by omega) (by omega) (by omega) (by omega) (by omega) (by omega), e4.1 k (by omega) (by omega)]
  · rw [sO k (by omega) (by omega) (by omega) (by omega) (by omega) (by omega) (by omega) (by omega), e4.1 k (by omega) (by omega)]
  · unfold PlM
    rw [pHe, pCe]
    refine ⟨s4, (s0 7 (by omega)).trans f27, fun h hh => ?_, fun c hc => ?_⟩
    · rw [kde, ice, s59 5 (by omega) (by omega), s59 6 (by omega) (by omega)]
      exact y3 h hh
    · obtain ⟨gc, gr⟩ := hg c hc
      obtain ⟨j1, j2, j3⟩ := w3 (g c) gc
      rw [gr] at j1 j2 j3
      rw [pre, lae, lne, s79 7 (by omega) (by omega), s79 8 (by omega) (by omega), s79 9 (by omega) (by omega)]
      refine ⟨j1, j2, fun i hi => ?_⟩
      rw [j3 i hi, nme c i hi]
      unfold pd
      by_cases w : i < l (g c)
      · rw [if_pos w, if_pos w]
      · rw [if_neg w, if_neg w]
        rfl
  · intro j hj
    rw [s10, y4 j hj]
    show _ = nI (beginT P j)
    unfold beginT
    rw [pHe, ice]
  · rw [v1.1 0 (by omega), su_11, if_pos ⟨rfl, rfl⟩]
    rfl
