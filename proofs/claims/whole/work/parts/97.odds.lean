/-! steps: odds, mid -/
theorem Rel.frL {τ σ τ' σ' : St} (h : Rel τ σ) (hC : ∀ k, k < 17 ∨ (24 ≤ k ∧ k < 41) ∨ k = 51 → τ'.1 k = τ.1 k) (hM : ∀ k, 1 ≤ k → k < 16 → k ≠ 11 → σ'.1 k = σ.1 k) (hM0 : ∀ j, j < 22 → σ'.1 0 j = σ.1 0 j) (hU : τ'.2 48 2 = σ'.2 0 18) (hL : τ'.2 48 3 = σ'.2 0 19) : Rel τ' σ' := by
  obtain ⟨⟨a1, a2, a3, a4, a5⟩, h2, h3, h4⟩ := h
  refine ⟨⟨?_, ?_, fun f hf => ?_, hU, hL⟩, h2.fr (fun k a b => hC k (by omega)) (fun k a b => hM k (by omega) (by omega) (by omega)), h3.fr (fun k a b => hC k (by omega)) (fun k a b => hM k (by omega) (by omega) (by omega)), h4.fr (fun k a b => hC k (by omega)) (fun k a b c => hM k (by omega) (by omega) c) (hM0 4 (by omega)) (hM0 7 (by omega)) (hM0 14 (by omega))⟩
  · rw [hC 0 (by omega), hM0 17 (by omega)]
    exact a1
  · rw [hC 0 (by omega), hM0 20 (by omega)]
    exact a2
  · rw [hC 51 (by omega), hM 15 (by omega) (by omega) (by omega)]
    exact a3 f hf
def sS (a b : Nat → Nat) (s : Nat) : Nat → Nat
  | 0 => 0
  | m + 1 => sS a b s m + (if s.testBit m then b m else a m)
def wS (p s : Nat) : Nat → Nat
  | 0 => 1
  | m + 1 => wS p s m * (if s.testBit m then p else 12 - p)
def Sg (f : Nat → Nat) : Nat → Nat
  | 0 => 0
  | n + 1 => Sg f n + f n
theorem wS_le {p s : Nat} (hp : p ≤ 12) : ∀ m, wS p s m ≤ 12 ^ m
  | 0 => Nat.le_refl _
  | m + 1 => by
    show wS p s m * (if s.testBit m then p else 12 - p) ≤ 12 ^ (m + 1)
    rw [Nat.pow_succ]
    refine Nat.mul_le_mul (wS_le hp m) ?_
    split <;> omega
theorem sS_le {a b : Nat → Nat} {s : Nat} : ∀ m, (∀ h, h < m → a h ≤ 99 ∧ b h ≤ 99) → sS a b s m ≤ 99 * m
  | 0, _ => Nat.le_refl _
  | m + 1, h => by
    have i := sS_le (a := a) (b := b) (s := s) m (fun x hx => h x (by omega))
    have q := h m (by omega)
    show sS a b s m + (if s.testBit m then b m else a m) ≤ 99 * (m + 1)
    split <;> omega
theorem Sg_le {f : Nat → Nat} {B : Nat} (h : ∀ s, f s ≤ B) : ∀ n, Sg f n ≤ n * B
  | 0 => by
    rw [Nat.zero_mul]
    exact Nat.le_refl _
  | n + 1 => by
    have i := Sg_le h n
    have j := h n
    show Sg f n + f n ≤ (n + 1) * B
    rw [Nat.succ_mul]
    omega
theorem Sg_add (f : Nat → Nat) (a : Nat) : ∀ b, Sg f (a + b) = Sg f a + Sg (fun i => f (a + i)) b
  | 0 => rfl
  | b + 1 => by
    show Sg f (a + b) + f (a + b) = Sg f a + (Sg (fun i => f (a + i)) b + f (a + b))
    rw [Sg_add f a b, Nat.add_assoc]
theorem Sg_congr {f g : Nat → Nat} : ∀ n, (∀ s, s < n → f s = g s) → Sg f n = Sg g n
  | 0, _ => rfl
  | n + 1, h => by
    show Sg f n + f n = Sg g n + g n
    rw [Sg_congr n (fun s hs => h s (by omega)), h n (by omega)]
theorem Sg_lin (f g : Nat → Nat) (x y : Nat) : ∀ n, Sg (fun s => x * f s + y * g s) n = x * Sg f n + y * Sg g n
  | 0 => by
    show 0 = x * 0 + y * 0
    omega
  | n + 1 => by
    show Sg (fun s => x * f s + y * g s) n + (x * f n + y * g n) = x * (Sg f n + f n) + y * (Sg g n + g n)
    rw [Sg_lin f g x y n, Nat.mul_add, Nat.mul_add]
    omega
theorem tb_lo {H s m : Nat} (hm : m < H) : (2 ^ H + s).testBit m = s.testBit m := Nat.testBit_two_pow_add_gt hm s
theorem tb_hi {H s : Nat} (hs : s < 2 ^ H) : (2 ^ H + s).testBit H = true := by
  rw [Nat.testBit_two_pow_add_eq, Nat.testBit_lt_two_pow hs]
  rfl
theorem sS_lo {a b : Nat → Nat} {H s : Nat} : ∀ m, m ≤ H → sS a b (2 ^ H + s) m = sS a b s m
  | 0, _ => rfl
  | m + 1, h => by
    show sS a b (2 ^ H + s) m + (if (2 ^ H + s).testBit m then b m else a m) = sS a b s m + (if s.testBit m then b m else a m)
    rw [sS_lo m (by omega), tb_lo (by omega)]
theorem wS_lo {p H s : Nat} : ∀ m, m ≤ H → wS p (2 ^ H + s) m = wS p s m
  | 0, _ => rfl
  | m + 1, h => by
    show wS p (2 ^ H + s) m * (if (2 ^ H + s).testBit m then p else 12 - p) = wS p s m * (if s.testBit m then p else 12 - p)
    rw [wS_lo m (by omega), tb_lo (by omega)]
theorem wS_sum {p : Nat} (hp : p ≤ 12) : ∀ H, Sg (fun s => wS p s H) (2 ^ H) = 12 ^ H
  | 0 => rfl
  | H + 1 => by
    rw [show 2 ^ (H + 1) = 2 ^ H + 2 ^ H by rw [Nat.pow_succ]; omega, Sg_add]
    have e1 : Sg (fun s => wS p s (H + 1)) (2 ^ H) = Sg (fun s => (12 - p) * wS p s H + 0 * wS p s H) (2 ^ H) := Sg_congr _ (fun s hs => by
      show wS p s H * (if s.testBit H then p else 12 - p) = (12 - p) * wS p s H + 0 * wS p s H
      rw [Nat.testBit_lt_two_pow hs, if_neg (by decide), Nat.mul_comm, Nat.zero_mul, Nat.add_zero])
    have e2 : Sg (fun i => wS p (2 ^ H + i) (H + 1)) (2 ^ H) = Sg (fun s => p * wS p s H + 0 * wS p s H) (2 ^ H) := Sg_congr _ (fun s hs => by
      show wS p (2 ^ H + s) H * (if (2 ^ H + s).testBit H then p else 12 - p) = p * wS p s H + 0 * wS p s H
      rw [tb_hi hs, if_pos rfl, wS_lo H (by omega), Nat.mul_comm, Nat.zero_mul, Nat.add_zero])
    rw [e1, e2, Sg_lin, Sg_lin, wS_sum hp H, Nat.pow_succ, Nat.zero_mul, Nat.add_zero, Nat.add_zero, ← Nat.add_mul, show 12 - p + p = 12 by omega, Nat.mul_comm]
def mS (p : Nat) (a b : Nat → Nat) : Nat → Nat
  | 0 => 0
  | m + 1 => mS p a b m + (p * b m + (12 - p) * a m)
theorem mean_eq {p : Nat} (hp : p ≤ 12) (a b : Nat → Nat) : ∀ H, 12 * Sg (fun s => wS p s H * sS a b s H) (2 ^ H) = 12 ^ H * mS p a b H
  | 0 => rfl
  | H + 1 => by
    have ih := mean_eq hp a b H
    rw [show 2 ^ (H + 1) = 2 ^ H + 2 ^ H by rw [Nat.pow_succ]; omega, Sg_add]
    have e1 : Sg (fun s => wS p s (H + 1) * sS a b s (H + 1)) (2 ^ H) = Sg (fun s => (12 - p) * (wS p s H * sS a b s H) + (12 - p) * a H * wS p s H) (2 ^ H) := Sg_congr _ (fun s hs => by
      show wS p s H * (if s.testBit H then p else 12 - p) * (sS a b s H + (if s.testBit H then b H else a H)) = _
      rw [Nat.testBit_lt_two_pow hs, if_neg (by decide), if_neg (by decide), Nat.mul_add, Nat.mul_right_comm, Nat.mul_comm (wS p s H * sS a b s H), Nat.mul_right_comm (wS p s H), Nat.mul_assoc (wS p s H), Nat.mul_comm (wS p s H), Nat.mul_comm (a H), Nat.mul_comm (wS p s H) ((12 - p) * a H)])
    have e2 : Sg (fun i => wS p (2 ^ H + i) (H + 1) * sS a b (2 ^ H + i) (H + 1)) (2 ^ H) = Sg (fun s => p * (wS p s H * sS a b s H) + p * b H * wS p s H) (2 ^ H) := Sg_congr _ (fun s hs => by
      show wS p (2 ^ H + s) H * (if (2 ^ H + s).testBit H then p else 12 - p) * (sS a b (2 ^ H + s) H + (if (2 ^ H + s).testBit H then b H else a H)) = _
      rw [tb_hi hs, if_pos rfl, if_pos rfl, wS_lo H (by omega), sS_lo H (by omega), Nat.mul_add, Nat.mul_right_comm, Nat.mul_comm (wS p s H * sS a b s H), Nat.mul_right_comm (wS p s H), Nat.mul_assoc (wS p s H), Nat.mul_comm (wS p s H), Nat.mul_comm (b H), Nat.mul_comm (wS p s H) (p * b H)])
    rw [e1, e2, Sg_lin, Sg_lin, wS_sum hp H]
    show 12 * ((12 - p) * Sg (fun s => wS p s H * sS a b s H) (2 ^ H) + (12 - p) * a H * 12 ^ H + (p * Sg (fun s => wS p s H * sS a b s H) (2 ^ H) + p * b H * 12 ^ H)) = 12 ^ (H + 1) * (mS p a b H + (p * b H + (12 - p) * a H))
    revert ih
    generalize Sg (fun s => wS p s H * sS a b s H) (2 ^ H) = E
    generalize mS p a b H = M
    intro ih
    have k1 : (12 - p) * E + p * E = 12 * E := by rw [← Nat.add_mul, show 12 - p + p = 12 by omega]
    rw [Nat.pow_succ]
    revert ih
    generalize 12 ^ H = T
    intro ih
    have k2 : (12 - p) * E + (12 - p) * a H * T + (p * E + p * b H * T) = 12 * E + (p * b H + (12 - p) * a H) * T := by
      rw [Nat.add_mul, ← k1]
      omega
    rw [k2, ih, Nat.mul_comm T 12, Nat.mul_assoc 12 T, Nat.mul_add T, Nat.mul_comm T (p * b H + (12 - p) * a H)]
theorem frac_eq {E M T : Nat} (hT : 1 ≤ T) (h : E = T * M) : E / Nat.gcd (12 * T) E = M / Nat.gcd 12 M ∧ 12 * T / Nat.gcd (12 * T) E = 12 / Nat.gcd 12 M := by
  rw [h, Nat.mul_comm 12 T, Nat.gcd_mul_left]
  exact ⟨Nat.mul_div_mul_left _ _ (by omega), Nat.mul_div_mul_left _ _ (by omega)⟩
theorem cmp_eq0 (x : Int64) : (lg_cmp x 0 = 0) = (x = 0) := by
  unfold lg_cmp
  by_cases h1 : x > 0
  · rw [if_pos h1]
    refine propext ⟨fun h => absurd h (by decide), fun h => ?_⟩
    rw [h] at h1
    exact absurd h1 (by decide)
  · rw [if_neg h1]
    by_cases h2 : x = 0
    · rw [if_pos h2]
      simp [h2]
    · rw [if_neg h2]
      refine propext ⟨fun h => absurd h (by decide), fun h => absurd h h2⟩
theorem lN_n0 {a : Nat} (h : a < 2 ^ 62) : (lN a = 0) = (a = 0) := by
  have := pk_lEQ (a := a) (b := 0) (by omega) (by omega)
  exact propext this
theorem half_lt {a b : Nat} (hb : 0 < b) (hr : 0 < a % b) : 2 * (b % (a % b)) < b := by
  have h1 := Nat.mod_lt a hb
  have h2 := Nat.mod_lt b hr
  have h3 := Nat.div_add_mod b (a % b)
  have h4 : 1 ≤ b / (a % b) := Nat.div_pos (by omega) hr
  have h5 : a % b * 1 ≤ a % b * (b / (a % b)) := Nat.mul_le_mul_left _ h4
  omega
theorem divC (τ : St) : ∀ (k a b i f : Nat), b < 2 ^ k → i + 2 * k + 1 ≤ 100 → 2 * k + 1 < f → a < 2 ^ 62 → b < 2 ^ 62 → fX0_divisorOf_L9 f τ (lN a) (lN b) (nI i) (fun σ5 v6 v7 v8 => some (σ5, v6)) = some (τ, lN (Nat.gcd b a)) := by
  have z : ∀ (a i f : Nat), 0 < f → i ≤ 100 → fX0_divisorOf_L9 f τ (lN a) (lN 0) (nI i) (fun σ5 v6 v7 v8 => some (σ5, v6)) = some (τ, lN (Nat.gcd 0 a)) := fun a i f hf hi => by
    match f, hf with
    | f + 1, _ =>
      rw [fX0_divisorOf_L9, Nat.gcd_zero_left, if_pos (show lg_cmp (lN 0) 0 = 0 by rw [cmp_eq0]; rfl), ite_self]
  intro k
  induction k with
  | zero =>
    intro a b i f hb hi hf ha hb2
    rw [show b = 0 by omega]
    exact z a i f (by omega) (by omega)
  | succ k ih =>
    intro a b i f hb hi hf ha hb2
    by_cases b0 : b = 0
    · rw [b0]
      exact z a i f (by omega) (by omega)
    · have m1 := Nat.mod_lt a (show 0 < b by omega)
      match f, hf with
      | f + 1, hf =>
        rw [fX0_divisorOf_L9, if_neg (show ¬ (100 : Int32) ≤ nI i from nI_ge (b := 100) (by omega) (by omega)), if_neg (show ¬ lg_cmp (lN b) 0 = 0 by rw [cmp_eq0, lN_n0 hb2]; exact b0), gd_t (show decide (¬ lN b = 0) = true by rw [decide_eq_true_eq, lN_n0 hb2]; exact b0), pk_lRem (by omega) (by omega) (by omega), nI_1, Nat.gcd_rec b a]
        by_cases r0 : a % b = 0
        · rw [r0]
          exact z b (i + 1) f (by omega) (by omega)
        · have hl := half_lt (a := a) (b := b) (by omega) (by omega)
          have p2 : 2 ^ (k + 1) = 2 * 2 ^ k := by rw [Nat.pow_succ]; omega
          match f, hf with
          | f + 1, hf =>
            rw [fX0_divisorOf_L9, if_neg (show ¬ (100 : Int32) ≤ nI (i + 1) from nI_ge (b := 100) (by omega) (by omega)), if_neg (show ¬ lg_cmp (lN (a % b)) 0 = 0 by rw [cmp_eq0, lN_n0 (by omega)]; exact r0), gd_t (show decide (¬ lN (a % b) = 0) = true by rw [decide_eq_true_eq, lN_n0 (by omega)]; exact r0), pk_lRem (by omega) (by omega) (by omega), nI_1, Nat.gcd_rec (a % b) b]
            exact ih (a % b) (b % (a % b)) (i + 1 + 1) f (by omega) (by omega) (by omega) (by omega) (by omega)
theorem divM (σ : St) (u w : Int64) (K : St → Int64 → Int64 → Option (St × Int32)) : ∀ (k a b f : Nat), b < 2 ^ k → 2 * k + 1 < f → a < 2 ^ 62 → b < 2 ^ 62 → fX11_tellsPart_L6 u w f σ (lN a) (lN b) K = K σ (lN (Nat.gcd b a)) (lN 0) := by
  have z : ∀ (a f : Nat), 0 < f → fX11_tellsPart_L6 u w f σ (lN a) (lN 0) K = K σ (lN (Nat.gcd 0 a)) (lN 0) := fun a f hf => by
    match f, hf with
    | f + 1, _ =>
      rw [fX11_tellsPart_L6, Nat.gcd_zero_left, if_pos (show lg_cmp (lN 0) 0 = 0 by rw [cmp_eq0]; rfl)]
  intro k
  induction k with
  | zero =>
    intro a b f hb hf ha hb2
    rw [show b = 0 by omega]
    exact z a f (by omega)
  | succ k ih =>
    intro a b f hb hf ha hb2
    by_cases b0 : b = 0
    · rw [b0]
      exact z a f (by omega)
    · have m1 := Nat.mod_lt a (show 0 < b by omega)
      match f, hf with
      | f + 1, hf =>
        rw [fX11_tellsPart_L6, if_neg (show ¬ lg_cmp (lN b) 0 = 0 by rw [cmp_eq0, lN_n0 hb2]; exact b0), gd_t (show decide (¬ lN b = 0) = true by rw [decide_eq_true_eq, lN_n0 hb2]; exact b0), pk_lRem (by omega) (by omega) (by omega), Nat.gcd_rec b a]
        by_cases r0 : a % b = 0
        · rw [r0]
          exact z b f (by omega)
        · have hl := half_lt (a := a) (b := b) (by omega) (by omega)
          have p2 : 2 ^ (k + 1) = 2 * 2 ^ k := by rw [Nat.pow_succ]; omega
          match f, hf with
          | f + 1, hf =>
            rw [fX11_tellsPart_L6, if_neg (show ¬ lg_cmp (lN (a % b)) 0 = 0 by rw [cmp_eq0, lN_n0 (by omega)]; exact r0), gd_t (show decide (¬ lN (a % b) = 0) = true by rw [decide_eq_true_eq, lN_n0 (by omega)]; exact r0), pk_lRem (by omega) (by omega) (by omega), Nat.gcd_rec (a % b) b]
            exact ih (a % b) (b % (a % b)) f (by omega) (by omega) (by omega) (by omega)
theorem tellC (τ : St) {a b : Nat} (ha : a < 2 ^ 62) (hb : b < 2 ^ 40) (b0 : 0 < b) : fX0_tell τ (lN a) (lN b) = some (sl (sl τ 48 2 (lN (a / Nat.gcd b a))) 48 3 (lN (b / Nat.gcd b a)), ()) := by
  have g0 : 0 < Nat.gcd b a := Nat.gcd_pos_of_pos_left a b0
  have g1 : Nat.gcd b a ≤ b := Nat.gcd_le_left a b0
  have D : fX0_divisorOf τ (lN a) (lN b) = some (τ, lN (Nat.gcd b a)) := divC τ 40 a b 0 10000 hb (by omega) (by omega) ha (by omega)
  have n0 : decide (¬ lN (Nat.gcd b a) = 0) = true := by
    rw [decide_eq_true_eq, lN_n0 (by omega)]
    omega
  unfold fX0_tell
  rw [D, cl_s, if_pos ((cmp_gt _ _).mpr (show (0 : Int64) < lN (Nat.gcd b a) from (pk_lLT (a := 0) (by omega) (by omega)).mpr g0)), gd_t n0, pt_s, gd_t n0, pt_s, pk_lDiv (by omega) g0 (by omega), pk_lDiv (by omega) g0 (by omega)]
theorem tellsM (σ : St) {a b : Nat} (ha : a < 2 ^ 62) (hb : b < 2 ^ 40) (b0 : 0 < b) : fX11_tellsPart σ (lN a) (lN b) = some (sl (sl σ 0 18 (lN (a / Nat.gcd b a))) 0 19 (lN (b / Nat.gcd b a)), 1) := by
  have g0 : 0 < Nat.gcd b a := Nat.gcd_pos_of_pos_left a b0
  have g1 : Nat.gcd b a ≤ b := Nat.gcd_le_left a b0
  have n0 : decide (¬ lN (Nat.gcd b a) = 0) = true := by
    rw [decide_eq_true_eq, lN_n0 (by omega)]
    omega
  unfold fX11_tellsPart
  rw [divM σ (lN a) (lN b) _ 40 a b 10000 hb (by omega) ha (by omega), gd_t n0, pt_s, gd_t n0, pt_s, pk_lDiv (by omega) g0 (by omega), pk_lDiv (by omega) g0 (by omega)]
theorem purseXC {τ : St} {P : Pl} {t : Tw} (hP : PlanOk P) (hC : PlC τ P) (ht : TwOk P t) (tC : TwC τ P t) {h i n : Nat} (hh : h < pH P) (hi9 : i ≤ 9) (hn : n < 1000) : fX0_purseIn τ (nI h) (nI i) (nI n) = some (τ, nI (itU (kd P h) i (t (1 + h)) n)) := by
  have h6 := hP.1
  unfold fX0_purseIn
  rw [rdC (show h < LC 33 by show h < 6; omega), tC.2.1 h hh, L_0]
  have L := jloop (fun n' σ a j k2 => fX0_purseIn_L11 (nI h) (nI i) (nI n) n' σ a j (fun σ a i => k2 σ a i)) n (fun j ρ b => ρ = τ ∧ b = nI (itU (kd P h) i (t (1 + h)) j)) (fun σ8 v9 v10 => some (σ8, v9)) (fun n' ρ b hI => by
      show fX0_purseIn_L11 (nI h) (nI i) (nI n) (n' + 1) ρ b (nI n) (fun σ7 v8 v9 => some (σ7, v8)) = _
      rw [fX0_purseIn_L11, if_pos (nI_le (by omega) (by omega))]) (fun n' ρ b j hj hI => by
      obtain ⟨q1, q2⟩ := hI
      rw [q1, q2]
      refine ⟨τ, nI (itU (kd P h) i (t (1 + h)) (j + 1)), ⟨rfl, rfl⟩, ?_⟩
      show fX0_purseIn_L11 (nI h) (nI i) (nI n) (n' + 1) τ (nI (itU (kd P h) i (t (1 + h)) j)) (nI j) (fun σ7 v8 v9 => some (σ7, v8)) = _
      rw [fX0_purseIn_L11, if_neg (nI_ge hj (by omega)), rdC (show h < LC 31 by show h < 6; omega), (hC.2.2.1 h hh).1, nxtC τ (hP.2.2.2.1 h hh).1 hi9 (itU_le (ht.2.1 h hh) j), cl_s, nI_1]
      rfl) n 0 10000 τ (nI (t (1 + h))) (by omega) (by omega) ⟨rfl, rfl⟩
  obtain ⟨ρ, b, ⟨q1, q2⟩, e⟩ := L
  rw [q1, q2] at e
  exact e
def eqQ (τ τ' : St) : Prop := (∀ k, k ≠ 49 → k ≠ 50 → τ'.1 k = τ.1 k) ∧ τ'.2 = τ.2
theorem eqQ.rf (τ : St) : eqQ τ τ := ⟨fun _ _ _ => rfl, rfl⟩
theorem eqQ.trans {a b c : St} (h : eqQ a b) (g : eqQ b c) : eqQ a c := ⟨fun k x y => (g.1 k x y).trans (h.1 k x y), g.2.trans h.2⟩
theorem eqQ.w {τ : St} {k i : Nat} {v : Int32} (h : k = 49 ∨ k = 50) : eqQ τ (su τ k i v) := ⟨fun j a b => su_o (by omega), rfl⟩
theorem eqQ.plan {τ τ' : St} (h : eqQ τ τ') {P : Pl} (hC : PlC τ P) : PlC τ' P := by
  unfold PlC
  rw [h.1 26 (by omega) (by omega), h.1 31 (by omega) (by omega), h.1 32 (by omega) (by omega), h.1 29 (by omega) (by omega), h.1 30 (by omega) (by omega), h.1 28 (by omega) (by omega), h.1 27 (by omega) (by omega)]
  exact hC
theorem eqQ.town {τ τ' : St} (h : eqQ τ τ') {P : Pl} {t : Tw} (tC : TwC τ P t) : TwC τ' P t := by
  unfold TwC
  rw [h.1 25 (by omega) (by omega), h.1 33 (by omega) (by omega), h.1 34 (by omega) (by omega)]
  exact tC
abbrev wiP (P : Pl) (t : Tw) (n h : Nat) : Nat := itU (kd P h) (ic P h) (t (1 + h)) n
abbrev woP (P : Pl) (t : Tw) (n h : Nat) : Nat := itU (kd P h) 0 (t (1 + h)) n
def Ah (τ : St) (P : Pl) (t : Tw) (n : Nat) : Prop := ∀ h, h < pH P → τ.1 49 h = nI (wiP P t n h) ∧ τ.1 50 h = nI (woP P t n h)
theorem lookAC {τ : St} {P : Pl} {t : Tw} (hP : PlanOk P) (hC : PlC τ P) (ht : TwOk P t) (tC : TwC τ P t) {n : Nat} (hn : n < 1000) : ∃ τ', fX0_lookAhead τ (nI n) = some (τ', ()) ∧ eqQ τ τ' ∧ Ah τ' P t n := by
  have h6 := hP.1
  unfold fX0_lookAhead
  rw [L_0]
  have L := iloop (fun n' σ i k => fX0_lookAhead_L2 (nI n) n' σ i k) (pH P) (fun i ρ => eqQ τ ρ ∧ ∀ h, h < i → ρ.1 49 h = nI (wiP P t n h) ∧ ρ.1 50 h = nI (woP P t n h)) (fun σ10 v11 => some (σ10, ())) (fun n' ρ hI => by
      show fX0_lookAhead_L2 (nI n) (n' + 1) ρ (nI (pH P)) _ = _
      rw [fX0_lookAhead_L2, (hI.1.plan hC).1, if_pos (nI_le (by omega) (by omega))]) (fun n' ρ i hi hI => by
      obtain ⟨q1, q2⟩ := hI
      have e1 : eqQ τ (su ρ 49 i (nI (wiP P t n i))) := q1.trans (eqQ.w (Or.inl rfl))
      have hi9 := (hP.2.2.2.1 i hi).2
      have z0 := purseXC hP (e1.plan hC) ht (e1.town tC) hi (show 0 ≤ 9 by omega) hn
      refine ⟨su (su ρ 49 i (nI (wiP P t n i))) 50 i (nI (woP P t n i)), ⟨e1.trans (eqQ.w (Or.inr rfl)), fun c hc => ?_⟩, ?_⟩
      · rw [su_11, su_11, su_11, su_11]
        by_cases z : c = i
        · rw [z, if_neg (by omega), if_pos ⟨rfl, rfl⟩, if_pos ⟨rfl, rfl⟩]
          exact ⟨rfl, rfl⟩
        · rw [if_neg (by omega), if_neg (by omega), if_neg (by omega), if_neg (by omega)]
          exact q2 c (by omega)
      · show fX0_lookAhead_L2 (nI n) (n' + 1) ρ (nI i) _ = _
        rw [fX0_lookAhead_L2, (q1.plan hC).1, if_neg (nI_ge hi (by omega)), rdC (show i < LC 32 by show i < 6; omega), ((q1.plan hC).2.2.1 i hi).2, purseXC hP (q1.plan hC) ht (q1.town tC) hi hi9 hn, cl_s, wrC (show i < LC 49 by show i < 6; omega), show fX0_purseIn (su ρ 49 i (nI (wiP P t n i))) (nI i) 0 (nI n) = _ from z0, cl_s, wrC (show i < LC 50 by show i < 6; omega), nI_1]) (pH P) 0 10000 τ (by omega) (by omega) ⟨eqQ.rf τ, fun c hc => absurd hc (by omega)⟩
  obtain ⟨τ', ⟨q1, q2⟩, e⟩ := L
  exact ⟨τ', e, q1, q2⟩
theorem ifC {τ : St} {P : Pl} {t : Tw} {n s : Nat} (hP : PlanOk P) (hA : Ah τ P t n) (hs : s < 2 ^ 31) : fX0_pursesIf τ (nI (pH P)) (nI s) = some (τ, nI (sS (wiP P t n) (woP P t n) s (pH P))) := by
  have h6 := hP.1
  unfold fX0_pursesIf
  rw [L_0]
  have L := jloop (fun n' σ a j k2 => fX0_pursesIf_L5 (nI (pH P)) (nI s) n' σ a j (fun σ a i => k2 σ a i)) (pH P) (fun j ρ b => ρ = τ ∧ b = nI (sS (wiP P t n) (woP P t n) s j)) (fun σ8 v9 v10 => some (σ8, v9)) (fun n' ρ b hI => by
      show fX0_pursesIf_L5 (nI (pH P)) (nI s) (n' + 1) ρ b (nI (pH P)) _ = _
      rw [fX0_pursesIf_L5, if_pos (nI_le (by omega) (by omega))]) (fun n' ρ b j hj hI => by
      obtain ⟨q1, q2⟩ := hI
      rw [q1, q2]
      refine ⟨τ, nI (sS (wiP P t n) (woP P t n) s j + (if s.testBit j then woP P t n j else wiP P t n j)), ⟨rfl, rfl⟩, ?_⟩
      show fX0_pursesIf_L5 (nI (pH P)) (nI s) (n' + 1) τ (nI (sS (wiP P t n) (woP P t n) s j)) (nI j) _ = fX0_pursesIf_L5 (nI (pH P)) (nI s) n' τ _ (nI (j + 1)) _
      rw [fX0_pursesIf_L5, if_neg (nI_ge hj (by omega)), tbI hs (by omega), jn_s, nI_1]
      cases s.testBit j
      · simp only [Bool.false_eq_true, if_false, if_true]
        rw [rdC (show j < LC 49 by show j < 6; omega), (hA j hj).1, nI_add]
      · simp only [if_true, o10, if_false]
        rw [rdC (show j < LC 50 by show j < 6; omega), (hA j hj).2, nI_add]) (pH P) 0 10000 τ (nI 0) (by omega) (by omega) ⟨rfl, rfl⟩
  obtain ⟨ρ, b, ⟨q1, q2⟩, e⟩ := L
  rw [q1, q2] at e
  exact e
theorem pL {p : Nat} (hp : p ≤ 12) : (nI p).toInt64 = lN p ∧ ((12 : Int32) - nI p).toInt64 = lN (12 - p) := by
  refine ⟨nI_l (by omega), ?_⟩
  rw [L_12, pk_sub hp, nI_l (by omega)]
theorem weightC {τ : St} {H s p : Nat} (h6 : H ≤ 6) (hp : p ≤ 12) (hs : s < 2 ^ 31) : fX0_weightOf τ (nI H) (nI s) (nI p) = some (τ, lN (wS p s H)) := by
  unfold fX0_weightOf
  rw [L_0]
  have L := jloop (fun n' σ a j k2 => fX0_weightOf_L5 (nI H) (nI s) (nI p) n' σ a j (fun σ a i => k2 σ a i)) H (fun j ρ b => ρ = τ ∧ b = lN (wS p s j)) (fun σ6 v7 v8 => some (σ6, v7)) (fun n' ρ b hI => by
      show fX0_weightOf_L5 (nI H) (nI s) (nI p) (n' + 1) ρ b (nI H) _ = _
      rw [fX0_weightOf_L5, if_pos (nI_le (by omega) (by omega))]) (fun n' ρ b j hj hI => by
      obtain ⟨q1, q2⟩ := hI
      rw [q1, q2]
      refine ⟨τ, lN (wS p s j * (if s.testBit j then p else 12 - p)), ⟨rfl, rfl⟩, ?_⟩
      show fX0_weightOf_L5 (nI H) (nI s) (nI p) (n' + 1) τ (lN (wS p s j)) (nI j) _ = fX0_weightOf_L5 (nI H) (nI s) (nI p) n' τ _ (nI (j + 1)) _
      rw [fX0_weightOf_L5, if_neg (nI_ge hj (by omega)), tbI hs (by omega), (pL hp).1, (pL hp).2, pv_s, nI_1]
      cases s.testBit j
      · simp only [Bool.false_eq_true, if_false, if_true]
        rw [lN_mul]
      · simp only [if_true, o10, if_false]
        rw [lN_mul]) H 0 10000 τ 1 (by omega) (by omega) ⟨rfl, rfl⟩
  obtain ⟨ρ, b, ⟨q1, q2⟩, e⟩ := L
  rw [q1, q2] at e
  exact e
