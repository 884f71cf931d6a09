section
/-! Pasted from kit/laws/BITS.to-paste: the family wb_ -/
theorem wb_tb (n : Nat) : (lN n).toBitVec = BitVec.ofNat 64 n := rfl
theorem wb_inj {a b : Int64} (h : a.toBitVec = b.toBitVec) : a = b := Int64.toBitVec_inj.mp h
theorem wb_tn {n : Nat} (h : n < 2 ^ 64) : (lN n).toBitVec.toNat = n := by rw [wb_tb, BitVec.toNat_ofNat, Nat.mod_eq_of_lt h]
theorem wb_of (x : Int64) : ∃ n, n < 2 ^ 64 ∧ x = lN n := ⟨x.toBitVec.toNat, x.toBitVec.isLt, wb_inj (by rw [wb_tb]; simp)⟩
theorem wb_of32 (x : Int32) : ∃ n, n < 2 ^ 32 ∧ x = nI n := ⟨x.toBitVec.toNat, x.toBitVec.isLt, Int32.toBitVec_inj.mp (by show _ = BitVec.ofNat 32 _; simp)⟩
theorem wb_c : ∀ k, k < 64 → ((nI k).toInt64 &&& 63) = lN k := by decide +kernel
theorem wb_cu : ∀ k, k < 64 → ((nI k).toInt64.toUInt64 &&& Int64.toUInt64 63) = UInt64.ofNat k := by decide +kernel
theorem wb_sm : ∀ k, k < 64 → (BitVec.ofNat 64 k).smod 64 = BitVec.ofNat 64 k := by decide +kernel
theorem wb_pw {a b : Nat} (h : a ≤ b) : 2 ^ b = 2 ^ a * 2 ^ (b - a) := by rw [← Nat.pow_add]; congr 1; omega
theorem wb_lt2 {a b : Nat} (h : a < b) : 2 ^ a < 2 ^ b := Nat.pow_lt_pow_right (by decide) h
theorem wb_mod (n : Nat) : lN n = lN (n % 2 ^ 64) := wb_inj (by rw [wb_tb, wb_tb]; apply BitVec.eq_of_toNat_eq; rw [BitVec.toNat_ofNat, BitVec.toNat_ofNat, Nat.mod_mod])
theorem wb_shr {n k : Nat} (hn : n < 2 ^ 64) (hk : k < 64) : ((lN n).toUInt64 >>> ((nI k).toInt64.toUInt64 &&& Int64.toUInt64 63)).toInt64 = lN (n / 2 ^ k) := by
  rw [wb_cu k hk]
  apply wb_inj
  apply BitVec.eq_of_toNat_eq
  show ((lN n).toUInt64 >>> UInt64.ofNat k).toNat = (BitVec.ofNat 64 _).toNat
  have h1 : (UInt64.ofNat k).toNat = k := by
    show (BitVec.ofNat 64 k).toNat = k
    rw [BitVec.toNat_ofNat, Nat.mod_eq_of_lt (by omega)]
  have h2 : (lN n).toUInt64.toNat = n := wb_tn hn
  rw [UInt64.toNat_shiftRight, h1, h2, Nat.mod_eq_of_lt hk, Nat.shiftRight_eq_div_pow, BitVec.toNat_ofNat, Nat.mod_eq_of_lt (Nat.lt_of_le_of_lt (Nat.div_le_self _ _) hn)]
theorem wb_shl (n : Nat) {k : Nat} (hk : k < 64) : lN n <<< ((nI k).toInt64 &&& 63) = lN (n * 2 ^ k) := by
  rw [wb_c k hk]
  apply wb_inj
  rw [Int64.toBitVec_shiftLeft, wb_tb, wb_tb, wb_tb, wb_sm k hk]
  apply BitVec.eq_of_toNat_eq
  rw [BitVec.shiftLeft_eq', BitVec.toNat_shiftLeft, BitVec.toNat_ofNat, BitVec.toNat_ofNat, BitVec.toNat_ofNat, Nat.mod_eq_of_lt (show k < 2 ^ 64 by omega), Nat.shiftLeft_eq, Nat.mul_mod, Nat.mod_mod, ← Nat.mul_mod]
theorem wb_and {a b : Nat} (ha : a < 2 ^ 64) (hb : b < 2 ^ 64) : lN a &&& lN b = lN (a &&& b) := by
  apply wb_inj
  rw [Int64.toBitVec_and, wb_tb, wb_tb, wb_tb]
  apply BitVec.eq_of_toNat_eq
  rw [BitVec.toNat_and, BitVec.toNat_ofNat, BitVec.toNat_ofNat, BitVec.toNat_ofNat, Nat.mod_eq_of_lt ha, Nat.mod_eq_of_lt hb, Nat.mod_eq_of_lt (Nat.and_lt_two_pow _ hb)]
theorem wb_or {a b : Nat} (ha : a < 2 ^ 64) (hb : b < 2 ^ 64) : lN a ||| lN b = lN (a ||| b) := by
  apply wb_inj
  rw [Int64.toBitVec_or, wb_tb, wb_tb, wb_tb]
  apply BitVec.eq_of_toNat_eq
  rw [BitVec.toNat_or, BitVec.toNat_ofNat, BitVec.toNat_ofNat, BitVec.toNat_ofNat, Nat.mod_eq_of_lt ha, Nat.mod_eq_of_lt hb, Nat.mod_eq_of_lt (Nat.or_lt_two_pow ha hb)]
theorem wb_mask {n k : Nat} (hn : n < 2 ^ 64) (hk : k < 64) : lN n &&& lN (2 ^ k - 1) = lN (n % 2 ^ k) := by
  rw [wb_and hn (by have := wb_lt2 hk; omega), Nat.and_two_pow_sub_one_eq_mod]
theorem wb_a1 {n : Nat} (hn : n < 2 ^ 64) : lN n &&& 1 = lN (n % 2) := wb_mask (k := 1) hn (by decide)
theorem wb_bit {n k : Nat} (hn : n < 2 ^ 64) (hk : k < 64) : ((lN n).toUInt64 >>> ((nI k).toInt64.toUInt64 &&& Int64.toUInt64 63)).toInt64 &&& 1 = lN (n / 2 ^ k % 2) := by
  rw [wb_shr hn hk, wb_a1 (Nat.lt_of_le_of_lt (Nat.div_le_self _ _) hn)]
end
section
/-! Pure rows: counting, ranks of suffixes, the step from a row to the row of the place before it. -/
/-- how many i < n have P -/
def si_cn : Nat → (Nat → Bool) → Nat
  | 0, _ => 0
  | n + 1, P => si_cn n P + (if P n = true then 1 else 0)
theorem si_cn_s (n : Nat) (P : Nat → Bool) : si_cn (n + 1) P = si_cn n P + (if P n = true then 1 else 0) := rfl
theorem si_cn_t {n : Nat} {P : Nat → Bool} (h : P n = true) : si_cn (n + 1) P = si_cn n P + 1 := by rw [si_cn_s, if_pos h]
theorem si_cn_f {n : Nat} {P : Nat → Bool} (h : P n = false) : si_cn (n + 1) P = si_cn n P := by
  rw [si_cn_s, if_neg (by rw [h]; decide), Nat.add_zero]
theorem si_cn_le (n : Nat) (P : Nat → Bool) : si_cn n P ≤ n := by
  induction n with
  | zero => exact Nat.le_refl 0
  | succ n ih => rw [si_cn_s]; split <;> omega
theorem si_cn_congr {n : Nat} {P Q : Nat → Bool} (h : ∀ i, i < n → P i = Q i) : si_cn n P = si_cn n Q := by
  induction n with
  | zero => rfl
  | succ n ih => rw [si_cn_s, si_cn_s, ih (fun i hi => h i (by omega)), h n (by omega)]
theorem si_cn_mono {n : Nat} {P Q : Nat → Bool} (h : ∀ i, i < n → P i = true → Q i = true) : si_cn n P ≤ si_cn n Q := by
  induction n with
  | zero => exact Nat.le_refl 0
  | succ n ih =>
    have h1 := ih (fun i hi => h i (by omega))
    have h2 := h n (by omega)
    rw [si_cn_s, si_cn_s]
    by_cases hp : P n = true
    · rw [if_pos hp, if_pos (h2 hp)]; omega
    · rw [if_neg hp]; split <;> omega
theorem si_cn_lt {n j : Nat} {P Q : Nat → Bool} (h : ∀ i, i < n → P i = true → Q i = true) (hj : j < n) (h1 : P j = false) (h2 : Q j = true) : si_cn n P < si_cn n Q := by
  induction n with
  | zero => omega
  | succ n ih =>
    by_cases e : j = n
    · subst e
      have := si_cn_mono (n := j) (P := P) (Q := Q) (fun i hi => h i (by omega))
      rw [si_cn_f h1, si_cn_t h2]; omega
    · have := ih (fun i hi => h i (by omega)) (by omega)
      have h3 := h n (by omega)
      rw [si_cn_s, si_cn_s]
      by_cases hp : P n = true
      · rw [if_pos hp, if_pos (h3 hp)]; omega
      · rw [if_neg hp]; split <;> omega
theorem si_cn_up {a b : Nat} (P : Nat → Bool) (h : a ≤ b) : si_cn a P ≤ si_cn b P := by
  induction b with
  | zero => have : a = 0 := by omega
            subst this; exact Nat.le_refl _
  | succ b ih =>
    by_cases e : a = b + 1
    · subst e; exact Nat.le_refl _
    · have := ih (by omega)
      rw [si_cn_s]; split <;> omega
theorem si_cn_ups {a b : Nat} {P : Nat → Bool} (h : a < b) (hP : P a = true) : si_cn a P < si_cn b P := by
  have := si_cn_up P (show a + 1 ≤ b from h)
  rw [si_cn_t hP] at this
  omega
theorem si_cn_all (n : Nat) : si_cn n (fun _ => true) = n := by
  induction n with
  | zero => rfl
  | succ n ih => rw [si_cn_t rfl, ih]
theorem si_cn_0 {n : Nat} {P : Nat → Bool} (h : ∀ i, i < n → P i = false) : si_cn n P = 0 := by
  induction n with
  | zero => rfl
  | succ n ih => rw [si_cn_f (h n (by omega)), ih (fun i hi => h i (by omega))]
theorem si_cn_1 {n : Nat} {P : Nat → Bool} (h : ∀ i j, i < n → j < n → P i = true → P j = true → i = j) : si_cn n P ≤ 1 := by
  induction n with
  | zero => exact Nat.zero_le _
  | succ n ih =>
    by_cases hp : P n = true
    · rw [si_cn_t hp, si_cn_0 (n := n)]
      · omega
      · intro i hi
        cases hq : P i with
        | false => rfl
        | true => have := h i n (by omega) (by omega) hq hp
                  omega
    · rw [si_cn_f (by simpa using hp)]
      exact ih (fun i j hi hj => h i j (by omega) (by omega))
theorem si_cn_not (n : Nat) (P : Nat → Bool) : si_cn n P + si_cn n (fun i => !P i) = n := by
  induction n with
  | zero => rfl
  | succ n ih =>
    cases hp : P n with
    | true => rw [si_cn_t hp, si_cn_f (P := fun i => !P i) (by simp [hp])]; omega
    | false => rw [si_cn_f hp, si_cn_t (P := fun i => !P i) (by simp [hp])]; omega
/-- a sum -/
def si_sm : Nat → (Nat → Nat) → Nat
  | 0, _ => 0
  | n + 1, f => si_sm n f + f n
theorem si_sm_s (n : Nat) (f : Nat → Nat) : si_sm (n + 1) f = si_sm n f + f n := rfl
theorem si_sm_congr {n : Nat} {f g : Nat → Nat} (h : ∀ i, i < n → f i = g i) : si_sm n f = si_sm n g := by
  induction n with
  | zero => rfl
  | succ n ih => rw [si_sm_s, si_sm_s, ih (fun i hi => h i (by omega)), h n (by omega)]
theorem si_sm_add (n : Nat) (f g : Nat → Nat) : si_sm n (fun i => f i + g i) = si_sm n f + si_sm n g := by
  induction n with
  | zero => rfl
  | succ n ih => rw [si_sm_s, si_sm_s, si_sm_s, ih]; omega
theorem si_sm_z (n : Nat) : si_sm n (fun _ => 0) = 0 := by
  induction n with
  | zero => rfl
  | succ n ih => rw [si_sm_s, ih]
theorem si_sm_swap (n k : Nat) (f : Nat → Nat → Nat) : si_sm n (fun i => si_sm k (fun j => f i j)) = si_sm k (fun j => si_sm n (fun i => f i j)) := by
  induction n with
  | zero => exact (si_sm_z k).symm
  | succ n ih =>
    rw [si_sm_s, ih, ← si_sm_add]
    rfl
theorem si_sm_1 {n a w : Nat} (h : a < n) : si_sm n (fun j => if a = j then w else 0) = w := by
  induction n with
  | zero => omega
  | succ n ih =>
    rw [si_sm_s]
    by_cases e : a = n
    · subst e
      rw [if_pos rfl, si_sm_congr (g := fun _ => 0) (fun i hi => if_neg (by omega)), si_sm_z]; omega
    · rw [if_neg e, ih (by omega), Nat.add_zero]
theorem si_sm_w (n w : Nat) (Q : Nat → Bool) : si_sm n (fun i => if Q i = true then w else 0) = w * si_cn n Q := by
  induction n with
  | zero => rfl
  | succ n ih =>
    rw [si_sm_s, si_cn_s, ih]
    split
    · rw [Nat.mul_add, Nat.mul_one]
    · rw [Nat.add_zero, Nat.add_zero]
theorem si_cn_sm (n : Nat) (P : Nat → Bool) : si_cn n P = si_sm n (fun i => if P i = true then 1 else 0) := by
  rw [si_sm_w, Nat.one_mul]
theorem si_sm_le {n : Nat} {f : Nat → Nat} (h : ∀ j, j < n → f j ≤ 1) : si_sm n f ≤ n := by
  induction n with
  | zero => exact Nat.le_refl 0
  | succ n ih =>
    have h1 := ih (fun i hi => h i (by omega))
    have h2 := h n (by omega)
    rw [si_sm_s]; omega
theorem si_sm_full {n : Nat} {f : Nat → Nat} (h : ∀ j, j < n → f j ≤ 1) (he : si_sm n f = n) : ∀ j, j < n → f j = 1 := by
  induction n with
  | zero => intro j hj; omega
  | succ n ih =>
    have h0 := si_sm_le (n := n) (fun i hi => h i (by omega))
    have h2 := h n (by omega)
    rw [si_sm_s] at he
    intro j hj
    by_cases e : j = n
    · subst e; omega
    · exact ih (fun i hi => h i (by omega)) (by omega) j (by omega)
/-- f sends the numbers below n to such, and no two to one -/
def si_bij (n : Nat) (f : Nat → Nat) : Prop := (∀ i, i < n → f i < n) ∧ ∀ i j, i < n → j < n → f i = f j → i = j
theorem si_hit {n : Nat} {f : Nat → Nat} (h : si_bij n f) : ∀ j, j < n → si_cn n (fun i => f i == j) = 1 := by
  refine si_sm_full (f := fun j => si_cn n (fun i => f i == j)) (fun j _ => si_cn_1 (fun a b ha hb h1 h2 => h.2 a b ha hb (by simp at h1 h2; omega))) ?_
  rw [si_sm_congr (g := fun j => si_sm n (fun i => if f i = j then 1 else 0)) (fun j _ => by
    rw [si_cn_sm]
    exact si_sm_congr (fun i _ => by by_cases e : f i = j <;> simp [e])), ← si_sm_swap]
  rw [si_sm_congr (g := fun _ => 1) (fun i hi => si_sm_1 (h.1 i hi))]
  have := si_cn_sm n (fun _ => true)
  rw [si_cn_all] at this
  simpa using this.symm
theorem si_onto {n : Nat} {f : Nat → Nat} (h : si_bij n f) {j : Nat} (hj : j < n) : ∃ i, i < n ∧ f i = j := by
  have h1 := si_hit h j hj
  apply Classical.byContradiction
  intro hn
  rw [si_cn_0 (fun i hi => by
    cases e : (f i == j) with
    | false => rfl
    | true => exact absurd ⟨i, hi, by simpa using e⟩ hn)] at h1
  omega
theorem si_cn_bij {n : Nat} {f : Nat → Nat} (h : si_bij n f) (P : Nat → Bool) : si_cn n (fun i => P (f i)) = si_cn n P := by
  rw [si_cn_sm]
  rw [si_sm_congr (g := fun i => si_sm n (fun j => if f i = j then (if P j = true then 1 else 0) else 0)) (fun i hi => by
    have h1 := si_sm_1 (n := n) (a := f i) (w := if P (f i) = true then 1 else 0) (h.1 i hi)
    rw [← h1]
    exact si_sm_congr (fun j _ => by by_cases e : f i = j <;> simp [e]))]
  rw [si_sm_swap, si_cn_sm n P]
  refine si_sm_congr (fun j hj => ?_)
  have h2 := si_sm_w n (if P j = true then 1 else 0) (fun i => f i == j)
  rw [si_hit h j hj, Nat.mul_one] at h2
  refine Eq.trans (si_sm_congr (fun i _ => ?_)) h2
  by_cases e : f i = j
  · exact (if_pos e).trans (if_pos (beq_iff_eq.mpr e)).symm
  · exact (if_neg e).trans (if_neg (fun q => e (beq_iff_eq.mp q))).symm
/-- the greatest i < n that has P (0 if none has) -/
def si_fd : Nat → (Nat → Bool) → Nat
  | 0, _ => 0
  | n + 1, P => if P n = true then n else si_fd n P
theorem si_fd_ok {n : Nat} {P : Nat → Bool} {i : Nat} (hi : i < n) (h : P i = true) : si_fd n P < n ∧ P (si_fd n P) = true := by
  induction n with
  | zero => omega
  | succ n ih =>
    show (if P n = true then n else si_fd n P) < n + 1 ∧ P (if P n = true then n else si_fd n P) = true
    by_cases hp : P n = true
    · rw [if_pos hp]; exact ⟨by omega, hp⟩
    · rw [if_neg hp]
      have hne : i ≠ n := fun e => hp (e ▸ h)
      have := ih (by omega)
      exact ⟨by omega, this.2⟩
/-- the inverse of f -/
def si_iv (n : Nat) (f : Nat → Nat) (j : Nat) : Nat := si_fd n (fun i => f i == j)
theorem si_iv_ok {n : Nat} {f : Nat → Nat} (h : si_bij n f) {j : Nat} (hj : j < n) : si_iv n f j < n ∧ f (si_iv n f j) = j := by
  obtain ⟨i, hi, e⟩ := si_onto h hj
  have := si_fd_ok (P := fun i => f i == j) hi (by simp [e])
  exact ⟨this.1, beq_iff_eq.mp this.2⟩
theorem si_iv_f {n : Nat} {f : Nat → Nat} (h : si_bij n f) {i : Nat} (hi : i < n) : si_iv n f (f i) = i := by
  have := si_iv_ok h (h.1 i hi)
  exact h.2 _ _ this.1 hi this.2
/-- the order of texts: the shorter is the smaller where the longer goes on -/
def si_sl : List Nat → List Nat → Bool
  | [], [] => false
  | [], _ :: _ => true
  | _ :: _, [] => false
  | a :: as, b :: bs => decide (a < b) || (a == b && si_sl as bs)
theorem si_sl_rf (a : List Nat) : si_sl a a = false := by
  induction a with
  | nil => rfl
  | cons x xs ih => simp [si_sl, ih]
theorem si_sl_nil (a : List Nat) : si_sl a [] = false := by cases a <;> rfl
theorem si_sl_tr {a b c : List Nat} (h1 : si_sl a b = true) (h2 : si_sl b c = true) : si_sl a c = true := by
  induction a generalizing b c with
  | nil =>
    cases b with
    | nil => simp [si_sl] at h1
    | cons y ys => cases c with
      | nil => simp [si_sl] at h2
      | cons z zs => rfl
  | cons x xs ih =>
    cases b with
    | nil => simp [si_sl] at h1
    | cons y ys => cases c with
      | nil => simp [si_sl] at h2
      | cons z zs =>
        simp only [si_sl, Bool.or_eq_true, Bool.and_eq_true, decide_eq_true_eq, beq_iff_eq] at h1 h2 ⊢
        rcases h1 with h1 | ⟨h1, h1'⟩
        · rcases h2 with h2 | ⟨h2, h2'⟩
          · left; omega
          · left; omega
        · rcases h2 with h2 | ⟨h2, h2'⟩
          · left; omega
          · right; exact ⟨by omega, ih h1' h2'⟩
theorem si_sl_tot {a b : List Nat} (h : a ≠ b) : si_sl a b = true ∨ si_sl b a = true := by
  induction a generalizing b with
  | nil => cases b with
    | nil => exact absurd rfl h
    | cons y ys => exact Or.inl rfl
  | cons x xs ih => cases b with
    | nil => exact Or.inr rfl
    | cons y ys =>
      simp only [si_sl, Bool.or_eq_true, Bool.and_eq_true, decide_eq_true_eq, beq_iff_eq]
      rcases Nat.lt_trichotomy x y with e | e | e
      · exact Or.inl (Or.inl e)
      · subst e
        have hne : xs ≠ ys := fun e => h (by rw [e])
        rcases ih hne with q | q
        · exact Or.inl (Or.inr ⟨rfl, q⟩)
        · exact Or.inr (Or.inr ⟨rfl, q⟩)
      · exact Or.inr (Or.inl e)
theorem si_sl_as {a b : List Nat} (h : si_sl a b = true) : si_sl b a = false := by
  cases e : si_sl b a with
  | false => rfl
  | true => have := si_sl_tr h e
            rw [si_sl_rf] at this; cases this
/-- the code at place p (0, the END, behind the last) -/
def si_g (t : List Nat) (p : Nat) : Nat := t.getD p 0
theorem si_g_in {t : List Nat} {p : Nat} (h : p < t.length) : si_g t p = t[p] := by simp [si_g, h]
theorem si_g_out {t : List Nat} {p : Nat} (h : t.length ≤ p) : si_g t p = 0 := by simp [si_g, h]
theorem si_drop {t : List Nat} {p : Nat} (h : p < t.length) : t.drop p = si_g t p :: t.drop (p + 1) := by
  rw [List.drop_eq_getElem_cons h, si_g_in h]
theorem si_dropn {t : List Nat} {p : Nat} (h : t.length ≤ p) : t.drop p = [] := List.drop_eq_nil_of_le h
/-- suffix q is smaller than suffix p -/
def si_sf (t : List Nat) (q p : Nat) : Bool := si_sl (t.drop q) (t.drop p)
theorem si_sf_s {t : List Nat} {q p : Nat} (hq : q < t.length) (hp : p < t.length) : si_sf t q p = (decide (si_g t q < si_g t p) || (si_g t q == si_g t p && si_sf t (q + 1) (p + 1))) := by
  unfold si_sf
  rw [si_drop hq, si_drop hp]
  rfl
theorem si_sf_e {t : List Nat} {p : Nat} (hp : p < t.length) : si_sf t t.length p = true := by
  unfold si_sf
  rw [si_dropn (Nat.le_refl _), si_drop hp]
  rfl
theorem si_sf_n {t : List Nat} {q : Nat} : si_sf t q t.length = false := by
  unfold si_sf
  rw [si_dropn (Nat.le_refl _)]
  exact si_sl_nil _
theorem si_sf_tot {t : List Nat} {q p : Nat} (hq : q ≤ t.length) (hp : p ≤ t.length) (h : q ≠ p) : si_sf t q p = true ∨ si_sf t p q = true :=
  si_sl_tot (fun e => h (by
    have := congrArg List.length e
    rw [List.length_drop, List.length_drop] at this
    omega))
/-- the row of place p -/
def si_rk (t : List Nat) (p : Nat) : Nat := si_cn (t.length + 1) (fun q => si_sf t q p)
theorem si_rk_lt {t : List Nat} {q p : Nat} (hq : q ≤ t.length) (h : si_sf t q p = true) : si_rk t q < si_rk t p :=
  si_cn_lt (j := q) (fun i _ hi => si_sl_tr hi h) (by omega) (si_sl_rf _) h
theorem si_rk_iff {t : List Nat} {q p : Nat} (hq : q ≤ t.length) (hp : p ≤ t.length) : si_rk t q < si_rk t p ↔ si_sf t q p = true := by
  constructor
  · intro h
    by_cases e : q = p
    · subst e; omega
    · rcases si_sf_tot hq hp e with h1 | h1
      · exact h1
      · have := si_rk_lt hp h1; omega
  · exact si_rk_lt hq
theorem si_rk_inj {t : List Nat} {q p : Nat} (hq : q ≤ t.length) (hp : p ≤ t.length) (h : si_rk t q = si_rk t p) : q = p := by
  apply Classical.byContradiction
  intro e
  rcases si_sf_tot hq hp e with h1 | h1
  · have := si_rk_lt hq h1; omega
  · have := si_rk_lt hp h1; omega
theorem si_rk_le {t : List Nat} {p : Nat} (hp : p ≤ t.length) : si_rk t p < t.length + 1 := by
  have h := si_cn_lt (n := t.length + 1) (j := p) (P := fun q => si_sf t q p) (Q := fun _ => true) (fun _ _ _ => rfl) (by omega) (si_sl_rf _) rfl
  rw [si_cn_all] at h
  exact h
theorem si_rk_n (t : List Nat) : si_rk t t.length = 0 := si_cn_0 (fun _ _ => si_sf_n)
theorem si_rk_bij (t : List Nat) : si_bij (t.length + 1) (si_rk t) :=
  ⟨fun _ hi => si_rk_le (by omega), fun _ _ hi hj h => si_rk_inj (by omega) (by omega) h⟩
/-- the place of row r -/
def si_pl (t : List Nat) (r : Nat) : Nat := si_iv (t.length + 1) (si_rk t) r
theorem si_pl_ok {t : List Nat} {r : Nat} (h : r ≤ t.length) : si_pl t r ≤ t.length ∧ si_rk t (si_pl t r) = r := by
  have := si_iv_ok (si_rk_bij t) (show r < t.length + 1 by omega)
  exact ⟨Nat.le_of_lt_succ this.1, this.2⟩
theorem si_pl_rk {t : List Nat} {p : Nat} (h : p ≤ t.length) : si_pl t (si_rk t p) = p := si_iv_f (si_rk_bij t) (by omega)
/-- the code that stands before place p (0: the END) -/
def si_bf (t : List Nat) (p : Nat) : Nat := if p = 0 then 0 else si_g t (p - 1)
/-- the BEFORE of row r -/
def si_B (t : List Nat) (r : Nat) : Nat := si_bf t (si_pl t r)
theorem si_B_rk {t : List Nat} {p : Nat} (h : p ≤ t.length) : si_B t (si_rk t p) = si_bf t p := by
  unfold si_B; rw [si_pl_rk h]
/-- the order of rows by their codes -/
def si_lo (c : Nat → Nat) (i r : Nat) : Bool := decide (c i < c r) || (c i == c r && decide (i < r))
def si_lf (c : Nat → Nat) (n : Nat) (r : Nat) : Nat := si_cn n (fun i => si_lo c i r)
theorem si_lo_rf (c : Nat → Nat) (i : Nat) : si_lo c i i = false := by simp [si_lo]
theorem si_lo_tr {c : Nat → Nat} {i j k : Nat} (h1 : si_lo c i j = true) (h2 : si_lo c j k = true) : si_lo c i k = true := by
  simp only [si_lo, Bool.or_eq_true, Bool.and_eq_true, decide_eq_true_eq, beq_iff_eq] at h1 h2 ⊢
  omega
theorem si_lo_tot {c : Nat → Nat} {i j : Nat} (h : i ≠ j) : si_lo c i j = true ∨ si_lo c j i = true := by
  simp only [si_lo, Bool.or_eq_true, Bool.and_eq_true, decide_eq_true_eq, beq_iff_eq]
  omega
theorem si_lf_lt {c : Nat → Nat} {n i j : Nat} (hi : i < n) (h : si_lo c i j = true) : si_lf c n i < si_lf c n j :=
  si_cn_lt (j := i) (fun _ _ hk => si_lo_tr hk h) hi (si_lo_rf c i) h
theorem si_lf_bij (c : Nat → Nat) (n : Nat) : si_bij n (si_lf c n) := by
  refine ⟨fun i hi => ?_, fun i j hi hj h => ?_⟩
  · have h := si_cn_lt (n := n) (j := i) (P := fun q => si_lo c q i) (Q := fun _ => true) (fun _ _ _ => rfl) hi (si_lo_rf c i) rfl
    rw [si_cn_all] at h
    exact h
  · apply Classical.byContradiction
    intro e
    rcases si_lo_tot (c := c) e with h1 | h1
    · have := si_lf_lt hi h1; omega
    · have := si_lf_lt hj h1; omega
/-- a text that may be written: at most 60 characters, each from 32 to 126 -/
def si_ok (t : List Nat) : Prop := t.length ≤ 60 ∧ ∀ c ∈ t, 32 ≤ c ∧ c ≤ 126
theorem si_ok_at {t : List Nat} (h : si_ok t) {p : Nat} (hp : p < t.length) : 32 ≤ si_g t p ∧ si_g t p ≤ 126 := by
  rw [si_g_in hp]
  exact h.2 _ (List.getElem_mem hp)
theorem si_bf_le {t : List Nat} (h : si_ok t) (p : Nat) : si_bf t p ≤ 126 := by
  unfold si_bf
  by_cases e : p = 0
  · rw [if_pos e]; omega
  · rw [if_neg e]
    by_cases hp : p - 1 < t.length
    · exact (si_ok_at h hp).2
    · rw [si_g_out (by omega)]; omega
theorem si_B_le {t : List Nat} (h : si_ok t) (r : Nat) : si_B t r ≤ 126 := si_bf_le h _
/-- the step of the rows: from the row of p to the row of the place before it -/
theorem si_lf_rk {t : List Nat} (h : si_ok t) {p : Nat} (h1 : 1 ≤ p) (h2 : p ≤ t.length) : si_lf (si_B t) (t.length + 1) (si_rk t p) = si_rk t (p - 1) := by
  unfold si_lf
  rw [← si_cn_bij (si_rk_bij t)]
  have hg : si_bij (t.length + 1) (fun q => if q = 0 then t.length else q - 1) := by
    refine ⟨fun i hi => ?_, fun i j hi hj e => ?_⟩
    · show (if i = 0 then t.length else i - 1) < t.length + 1
      split <;> omega
    · have e : (if i = 0 then t.length else i - 1) = (if j = 0 then t.length else j - 1) := e
      split at e <;> split at e <;> omega
  show _ = si_cn (t.length + 1) (fun q => si_sf t q (p - 1))
  rw [← si_cn_bij hg (fun q => si_sf t q (p - 1))]
  refine si_cn_congr (fun q hq => ?_)
  unfold si_lo
  rw [si_B_rk (show q ≤ t.length by omega), si_B_rk h2]
  have hp := si_ok_at h (show p - 1 < t.length by omega)
  have hbp : si_bf t p = si_g t (p - 1) := by unfold si_bf; rw [if_neg (by omega)]
  rw [hbp]
  by_cases e : q = 0
  · subst e
    rw [if_pos rfl, si_sf_e (by omega)]
    have : si_bf t 0 = 0 := rfl
    rw [this]
    have : (0 : Nat) < si_g t (p - 1) := by omega
    simp [this]
  · rw [if_neg e]
    have hbq : si_bf t q = si_g t (q - 1) := by unfold si_bf; rw [if_neg e]
    rw [hbq, si_sf_s (by omega) (by omega)]
    have e1 : q - 1 + 1 = q := by omega
    have e2 : p - 1 + 1 = p := by omega
    rw [e1, e2]
    have h3 := si_rk_iff (t := t) (q := q) (p := p) (by omega) h2
    have h4 : decide (si_rk t q < si_rk t p) = si_sf t q p := by
      cases hs : si_sf t q p with
      | true => simp [h3.mpr hs]
      | false => simp; have : ¬ si_rk t q < si_rk t p := fun q1 => by rw [h3.mp q1] at hs; cases hs
                 omega
    rw [h4]
theorem si_lf_0 {t : List Nat} (h : si_ok t) : si_lf (si_B t) (t.length + 1) (si_rk t 0) = 0 := by
  unfold si_lf
  rw [← si_cn_bij (si_rk_bij t)]
  refine si_cn_0 (fun q hq => ?_)
  unfold si_lo
  rw [si_B_rk (show q ≤ t.length by omega), si_B_rk (Nat.zero_le _)]
  have : si_bf t 0 = 0 := rfl
  rw [this]
  by_cases e : q = 0
  · subst e; simp
  · have hbq : si_bf t q = si_g t (q - 1) := by unfold si_bf; rw [if_neg e]
    have := si_ok_at h (show q - 1 < t.length by omega)
    rw [hbq]
    have h0 : ¬ si_g t (q - 1) = 0 := by omega
    simp [h0]
end
section
/-! Pure rows: the levels of an image, reading them again, the image. -/
theorem si_bij_comp {n : Nat} {f g : Nat → Nat} (hf : si_bij n f) (hg : si_bij n g) : si_bij n (fun i => g (f i)) :=
  ⟨fun i hi => hg.1 _ (hf.1 i hi), fun i j hi hj h => hf.2 i j hi hj (hg.2 _ _ (hf.1 i hi) (hf.1 j hj) h)⟩
/-- where place i goes: the zeros first, then the ones, each in their order -/
def si_ps (n : Nat) (b : Nat → Bool) (i : Nat) : Nat := if b i = true then si_cn n (fun k => !b k) + si_cn i b else si_cn i (fun k => !b k)
theorem si_ps_t {n : Nat} {b : Nat → Bool} {i : Nat} (h : b i = true) : si_ps n b i = si_cn n (fun k => !b k) + si_cn i b := if_pos h
theorem si_ps_f {n : Nat} {b : Nat → Bool} {i : Nat} (h : b i = false) : si_ps n b i = si_cn i (fun k => !b k) := if_neg (by rw [h]; decide)
theorem si_ps_bij (n : Nat) (b : Nat → Bool) : si_bij n (si_ps n b) := by
  have hn := si_cn_not n b
  have key : ∀ i j, i < n → j < n → i < j → si_ps n b i ≠ si_ps n b j := by
    intro i j hi hj hij
    cases ei : b i <;> cases ej : b j
    · have := si_cn_ups (P := fun k => !b k) hij (by simp [ei])
      rw [si_ps_f ei, si_ps_f ej]; omega
    · have := si_cn_ups (P := fun k => !b k) hi (by simp [ei])
      rw [si_ps_f ei, si_ps_t ej]; omega
    · have := si_cn_ups (P := fun k => !b k) hj (by simp [ej])
      rw [si_ps_t ei, si_ps_f ej]; omega
    · have := si_cn_ups hij ei
      rw [si_ps_t ei, si_ps_t ej]; omega
  refine ⟨fun i hi => ?_, fun i j hi hj h => ?_⟩
  · cases ei : b i
    · have := si_cn_ups (P := fun k => !b k) hi (by simp [ei])
      rw [si_ps_f ei]; omega
    · have := si_cn_ups hi ei
      rw [si_ps_t ei]; omega
  · rcases Nat.lt_trichotomy i j with e | e | e
    · exact absurd h (key i j hi hj e)
    · exact e
    · exact absurd h.symm (key j i hj hi e)
theorem si_ps_congr {n : Nat} {b b' : Nat → Bool} (h : ∀ i, i < n → b i = b' i) {i : Nat} (hi : i < n) : si_ps n b i = si_ps n b' i := by
  unfold si_ps
  rw [h i hi, si_cn_congr (n := n) (P := fun k => !b k) (Q := fun k => !b' k) (fun k hk => by rw [h k hk]), si_cn_congr (n := i) (P := fun k => !b k) (Q := fun k => !b' k) (fun k hk => by rw [h k (by omega)]), si_cn_congr (n := i) (P := b) (Q := b') (fun k hk => h k (by omega))]
/-- bit j of a code of seven bits, the highest first -/
def si_bt (j c : Nat) : Bool := c / 2 ^ (6 - j) % 2 == 1
/-- the place of row x at level j -/
def si_lp (c : Nat → Nat) (n : Nat) : Nat → Nat → Nat
  | 0 => fun x => x
  | j + 1 => fun x => si_ps n (fun i => si_bt j (c (si_iv n (si_lp c n j) i))) (si_lp c n j x)
/-- the bit at place i of level j -/
def si_lb (c : Nat → Nat) (n j i : Nat) : Bool := si_bt j (c (si_iv n (si_lp c n j) i))
theorem si_lp_s (c : Nat → Nat) (n j x : Nat) : si_lp c n (j + 1) x = si_ps n (si_lb c n j) (si_lp c n j x) := rfl
theorem si_lp_bij (c : Nat → Nat) (n j : Nat) : si_bij n (si_lp c n j) := by
  induction j with
  | zero => exact ⟨fun _ h => h, fun _ _ _ _ h => h⟩
  | succ j ih => exact si_bij_comp (f := si_lp c n j) (g := si_ps n (si_lb c n j)) ih (si_ps_bij n (si_lb c n j))
theorem si_lb_at {c : Nat → Nat} {n j x : Nat} (hx : x < n) : si_lb c n j (si_lp c n j x) = si_bt j (c x) := by
  unfold si_lb
  rw [si_iv_f (si_lp_bij c n j) hx]
/-- the word with the bits b below n -/
def si_wd : Nat → (Nat → Bool) → Int64
  | 0, _ => 0
  | n + 1, b => if b n = true then si_wd n b ||| ((1 : Int64) <<< ((nI n).toInt64 &&& 63)) else si_wd n b
theorem si_wd_t {n : Nat} {b : Nat → Bool} (h : b n = true) : si_wd (n + 1) b = si_wd n b ||| ((1 : Int64) <<< ((nI n).toInt64 &&& 63)) := if_pos h
theorem si_wd_f {n : Nat} {b : Nat → Bool} (h : b n = false) : si_wd (n + 1) b = si_wd n b := if_neg (by rw [h]; decide)
theorem si_wd_congr {n : Nat} {b b' : Nat → Bool} (h : ∀ i, i < n → b i = b' i) : si_wd n b = si_wd n b' := by
  induction n with
  | zero => rfl
  | succ n ih =>
    have ih := ih (fun i hi => h i (by omega))
    have hn := h n (by omega)
    cases e : b n with
    | true => rw [si_wd_t e, si_wd_t (hn ▸ e), ih]
    | false => rw [si_wd_f e, si_wd_f (hn ▸ e), ih]
/-- bit i of a word -/
def si_bi (w : Int64) (i : Nat) : Bool := w.toBitVec.getLsbD i
theorem si_sh1 : ∀ k, k < 64 → ((1 : Int64) <<< ((nI k).toInt64 &&& 63)).toBitVec = BitVec.twoPow 64 k := by decide +kernel
theorem si_or1 (w : Int64) {k : Nat} (hk : k < 64) (i : Nat) : si_bi (w ||| ((1 : Int64) <<< ((nI k).toInt64 &&& 63))) i = (si_bi w i || decide (k = i)) := by
  unfold si_bi
  rw [Int64.toBitVec_or, BitVec.getLsbD_or, si_sh1 k hk, BitVec.getLsbD_twoPow]
  simp [hk]
theorem si_bi_0 (i : Nat) : si_bi 0 i = false := by
  unfold si_bi
  show (0#64).getLsbD i = false
  simp
theorem si_wd_bi {n : Nat} (hn : n ≤ 64) (b : Nat → Bool) (i : Nat) : si_bi (si_wd n b) i = (decide (i < n) && b i) := by
  induction n with
  | zero => exact (si_bi_0 i).trans (by simp)
  | succ n ih =>
    have ih := ih (by omega)
    cases e : b n with
    | true =>
      rw [si_wd_t e, si_or1 _ (by omega), ih]
      by_cases q : n = i
      · subst q; simp [e]
      · have : decide (i < n + 1) = decide (i < n) := decide_eq_decide.mpr (by omega)
        rw [this]; simp [q]
    | false =>
      rw [si_wd_f e, ih]
      by_cases q : n = i
      · subst q; simp [e]
      · have : decide (i < n + 1) = decide (i < n) := decide_eq_decide.mpr (by omega)
        rw [this]
theorem si_bi_ext {w v : Int64} (h : ∀ i, i < 64 → si_bi w i = si_bi v i) : w = v :=
  wb_inj (BitVec.eq_of_getLsbD_eq (fun i hi => h i hi))
theorem si_and1 (x : BitVec 64) : (x &&& 1#64) = if x.getLsbD 0 = true then 1#64 else 0#64 := by
  apply BitVec.eq_of_getLsbD_eq
  intro i hi
  rw [BitVec.getLsbD_and]
  cases i with
  | zero =>
    cases h : x.getLsbD 0
    · rw [if_neg (by decide), Bool.false_and]; decide
    · rw [if_pos rfl, Bool.true_and]
  | succ i =>
    have h1 : (1#64).getLsbD (i + 1) = false := by simp
    rw [h1, Bool.and_false]
    cases h : x.getLsbD 0
    · rw [if_neg (by decide)]; simp
    · rw [if_pos rfl, h1]
theorem si_ite1 (b : Bool) : (if b = true then (1 : Int64) else 0).toBitVec = if b = true then 1#64 else 0#64 := by cases b <;> rfl
/-- the bit as the class reads it -/
theorem si_ush (w : Int64) {i : Nat} (hi : i < 64) : ((w.toUInt64 >>> ((nI i).toInt64.toUInt64 &&& Int64.toUInt64 63)).toInt64 &&& 1) = if si_bi w i = true then 1 else 0 := by
  rw [wb_cu i hi]
  apply wb_inj
  have e : (w.toUInt64 >>> UInt64.ofNat i).toInt64.toBitVec = w.toBitVec >>> i := by
    apply BitVec.eq_of_toNat_eq
    show (w.toUInt64 >>> UInt64.ofNat i).toNat = _
    have h1 : (UInt64.ofNat i).toNat = i := by
      show (BitVec.ofNat 64 i).toNat = i
      rw [BitVec.toNat_ofNat, Nat.mod_eq_of_lt (by omega)]
    rw [UInt64.toNat_shiftRight, h1, Nat.mod_eq_of_lt hi, BitVec.toNat_ushiftRight]
    rfl
  rw [Int64.toBitVec_and, e, si_ite1]
  show (w.toBitVec >>> i) &&& 1#64 = _
  rw [si_and1, BitVec.getLsbD_ushiftRight, Nat.add_zero]
  rfl
/-- the bit as the reference reads it -/
theorem si_ssh (w : Int64) {i : Nat} (hi : i < 64) : ((w >>> ((nI i).toInt64 &&& 63)) &&& 1) = if si_bi w i = true then 1 else 0 := by
  rw [wb_c i hi]
  apply wb_inj
  rw [Int64.toBitVec_and, Int64.toBitVec_shiftRight, wb_tb, wb_sm i hi, si_ite1]
  show (w.toBitVec.sshiftRight' (BitVec.ofNat 64 i)) &&& 1#64 = _
  have h1 : (BitVec.ofNat 64 i).toNat = i := by rw [BitVec.toNat_ofNat, Nat.mod_eq_of_lt (by omega)]
  rw [si_and1, BitVec.sshiftRight', h1, BitVec.getLsbD_sshiftRight]
  simp [hi, si_bi]
/-- places and codes, read from the words' bits, level by level -/
def si_rp (b : Nat → Nat → Bool) (n : Nat) : Nat → Nat → Nat
  | 0 => fun x => x
  | j + 1 => fun x => si_ps n (b j) (si_rp b n j x)
def si_rc (b : Nat → Nat → Bool) (n : Nat) : Nat → Nat → Nat
  | 0 => fun _ => 0
  | j + 1 => fun x => 2 * si_rc b n j x + (if b j (si_rp b n j x) = true then 1 else 0)
theorem si_rp_s (b : Nat → Nat → Bool) (n j x : Nat) : si_rp b n (j + 1) x = si_ps n (b j) (si_rp b n j x) := rfl
theorem si_rc_s (b : Nat → Nat → Bool) (n j x : Nat) : si_rc b n (j + 1) x = 2 * si_rc b n j x + (if b j (si_rp b n j x) = true then 1 else 0) := rfl
theorem si_rp_bij (b : Nat → Nat → Bool) (n j : Nat) : si_bij n (si_rp b n j) := by
  induction j with
  | zero => exact ⟨fun _ h => h, fun _ _ _ _ h => h⟩
  | succ j ih => exact si_bij_comp (f := si_rp b n j) (g := si_ps n (b j)) ih (si_ps_bij n (b j))
theorem si_rc_lt (b : Nat → Nat → Bool) (n j x : Nat) : si_rc b n j x < 2 ^ j := by
  induction j with
  | zero => exact Nat.zero_lt_one
  | succ j ih => rw [si_rc_s, Nat.pow_succ]; split <;> omega
theorem si_rp_lp {b : Nat → Nat → Bool} {c : Nat → Nat} {n : Nat} {J : Nat} (h : ∀ j, j < J → ∀ i, i < n → b j i = si_lb c n j i) : ∀ j, j ≤ J → ∀ x, x < n → si_rp b n j x = si_lp c n j x := by
  intro j
  induction j with
  | zero => intro _ x _; rfl
  | succ j ih =>
    intro hj x hx
    rw [si_rp_s, si_lp_s, ih (by omega) x hx]
    exact si_ps_congr (h j (by omega)) ((si_lp_bij c n j).1 x hx)
theorem si_rc_c {b : Nat → Nat → Bool} {c : Nat → Nat} {n : Nat} (h : ∀ j, j < 7 → ∀ i, i < n → b j i = si_lb c n j i) {x : Nat} (hx : x < n) (hc : c x < 128) : ∀ j, j ≤ 7 → si_rc b n j x = c x / 2 ^ (7 - j) := by
  intro j
  induction j with
  | zero => intro _; rw [Nat.div_eq_of_lt (by omega)]; rfl
  | succ j ih =>
    intro hj
    rw [si_rc_s, ih (by omega), si_rp_lp h j (by omega) x hx, h j (by omega) _ ((si_lp_bij c n j).1 x hx), si_lb_at hx]
    unfold si_bt
    have e : 7 - j = (6 - j) + 1 := by omega
    have e2 : 7 - (j + 1) = 6 - j := by omega
    rw [e, e2, Nat.pow_succ, ← Nat.div_div_eq_div_mul]
    generalize c x / 2 ^ (6 - j) = a
    by_cases q : a % 2 = 1
    · rw [if_pos (by simp [q])]; omega
    · rw [if_neg (by simp; omega)]; omega
/-- a number drawn into the words from fw on -/
def si_dn (im : Nat → Int64) (fw i v : Nat) : Nat → Int64 := vp_updL im (fw + i / 10) (im (fw + i / 10) ||| (lN v <<< ((nI (6 * (i % 10))).toInt64 &&& 63)))
/-- the marks, the places of the marked rows: over the first r rows -/
def si_mr (t : List Nat) (s : Nat) : Nat → (Nat → Int64) × Nat
  | 0 => (fun _ => 0, 0)
  | r + 1 => if si_pl t r % s = 0 then (si_dn (vp_updL (si_mr t s r).1 8 ((si_mr t s r).1 8 ||| ((1 : Int64) <<< ((nI r).toInt64 &&& 63)))) 9 (si_mr t s r).2 (si_pl t r / s), (si_mr t s r).2 + 1) else si_mr t s r
theorem si_mr_t {t : List Nat} {s r : Nat} (h : si_pl t r % s = 0) : si_mr t s (r + 1) = (si_dn (vp_updL (si_mr t s r).1 8 ((si_mr t s r).1 8 ||| ((1 : Int64) <<< ((nI r).toInt64 &&& 63)))) 9 (si_mr t s r).2 (si_pl t r / s), (si_mr t s r).2 + 1) := if_pos h
theorem si_mr_f {t : List Nat} {s r : Nat} (h : ¬ si_pl t r % s = 0) : si_mr t s (r + 1) = si_mr t s r := if_neg h
theorem si_mr_le (t : List Nat) (s r : Nat) : (si_mr t s r).2 ≤ r := by
  induction r with
  | zero => exact Nat.le_refl 0
  | succ r ih =>
    by_cases h : si_pl t r % s = 0
    · rw [si_mr_t h]; show (si_mr t s r).2 + 1 ≤ r + 1; omega
    · rw [si_mr_f h]; omega
/-- the rows of the places: over the first q of them -/
def si_rw (t : List Nat) (s : Nat) : Nat → (Nat → Int64)
  | 0 => (si_mr t s (t.length + 1)).1
  | q + 1 => si_dn (si_rw t s q) 16 q (si_rk t (q * s))
/-- the image of the text t at the rate s -/
def si_im (t : List Nat) (s : Nat) : Nat → Int64 := fun k => if k = 0 then lN (t.length + 256 * s) else if k < 8 then si_wd (t.length + 1) (si_lb (si_B t) (t.length + 1) (k - 1)) else si_rw t s (t.length / s + 1) k
def si_is (d : Nat → Int64) (t : List Nat) (s : Nat) : Prop := si_ok t ∧ 1 ≤ s ∧ s ≤ 16 ∧ ∀ k, k < 23 → d k = si_im t s k
/-- the bits of the levels in the words d -/
def si_db (d : Nat → Int64) (j i : Nat) : Bool := si_bi (d (j + 1)) i
theorem si_is_bits {d : Nat → Int64} {t : List Nat} {s : Nat} (h : si_is d t s) : ∀ j, j < 7 → ∀ i, i < t.length + 1 → si_db d j i = si_lb (si_B t) (t.length + 1) j i := by
  intro j hj i hi
  unfold si_db
  rw [h.2.2.2 (j + 1) (by omega)]
  unfold si_im
  rw [if_neg (by omega), if_pos (by omega), si_wd_bi (by have := h.1.1; omega), Nat.add_sub_cancel]
  simp [hi]
/-- the codes read from an image are the BEFOREs -/
theorem si_is_codes {d : Nat → Int64} {t : List Nat} {s : Nat} (h : si_is d t s) {x : Nat} (hx : x < t.length + 1) : si_rc (si_db d) (t.length + 1) 7 x = si_B t x := by
  have h1 := si_rc_c (si_is_bits h) hx (show si_B t x < 128 by have := si_B_le h.1 x; omega) 7 (Nat.le_refl 7)
  rw [h1]
  simp
theorem si_is_head {d : Nat → Int64} {t : List Nat} {s : Nat} (h : si_is d t s) : d 0 = lN (t.length + 256 * s) := by
  rw [h.2.2.2 0 (by omega)]; rfl
/-- one image, one text and rate: the text is told by its codes -/
theorem si_spell {t u : List Nat} (ht : si_ok t) (hu : si_ok u) (hn : t.length = u.length) (h : ∀ x, x < t.length + 1 → si_B t x = si_B u x) : t = u := by
  have hlf : ∀ r, r < t.length + 1 → si_lf (si_B t) (t.length + 1) r = si_lf (si_B u) (u.length + 1) r := fun r hr => by
    rw [← hn]
    exact si_cn_congr (fun i hi => by unfold si_lo; rw [h i hi, h r hr])
  have hrk : ∀ k, k ≤ t.length → si_rk t (t.length - k) = si_rk u (u.length - k) := by
    intro k
    induction k with
    | zero => intro _; rw [Nat.sub_zero, Nat.sub_zero, si_rk_n, si_rk_n]
    | succ k ih =>
      intro hk
      have e := ih (by omega)
      have h1 := si_lf_rk ht (p := t.length - k) (by omega) (by omega)
      have h2 := si_lf_rk hu (p := u.length - k) (by omega) (by omega)
      rw [hlf _ (si_rk_le (by omega)), e, h2] at h1
      rw [show t.length - (k + 1) = t.length - k - 1 by omega, show u.length - (k + 1) = u.length - k - 1 by omega]
      exact h1.symm
  apply List.ext_getElem hn
  intro p h1 h2
  have e1 := si_B_rk (t := t) (p := p + 1) (by omega)
  have e2 := si_B_rk (t := u) (p := p + 1) (by omega)
  have e3 := hrk (t.length - (p + 1)) (by omega)
  rw [show t.length - (t.length - (p + 1)) = p + 1 by omega, show u.length - (t.length - (p + 1)) = p + 1 by omega] at e3
  rw [h _ (si_rk_le (by omega)), e3, e2] at e1
  unfold si_bf at e1
  rw [if_neg (by omega), if_neg (by omega), Nat.add_sub_cancel] at e1
  rw [si_g_in h2, si_g_in h1] at e1
  exact e1.symm
end
section
/-! Rows of the machine, said with naturals; contracts in one form. Written by wip/draft/gen_rows.py -/
section SIW
variable {p : Program} {l : Launch} {e : Env} {R : Room} {s : State} {m : MethodId} {args : Array Value} {below : List Frame} {meth : Method} {c : Code} {H : Heap} {locs : List Loc} {cells slots : Nat} {Q : State → Prop}
variable {cc : ByteArray} {pc : Nat} {ls : Array Slot} {rest : List Value} {D : va_G} {cl : List vw_C} {A : Nat → Prop} {a : Nat} {tys : List (ClassId × FieldType)} {ws : va_W} {H0 : Heap}
theorem si_iadd (hexec : p.tables.exec = Jvm.exec) (hb : c.code = cc) {x y v : Int32} (hdg : decode cc pc = .ok (.iadd, 1)) (hv : x + y = v) (k : W p l e R s m args below meth c H locs cells slots Q (F0 m (pc + 1) ls (.int v :: rest))) : W p l e R s m args below meth c H locs cells slots Q (F0 m pc ls (.int y :: .int x :: rest)) := by subst hv; exact lv_iadd hexec hb hdg k
theorem si_isub (hexec : p.tables.exec = Jvm.exec) (hb : c.code = cc) {x y v : Int32} (hdg : decode cc pc = .ok (.isub, 1)) (hv : x - y = v) (k : W p l e R s m args below meth c H locs cells slots Q (F0 m (pc + 1) ls (.int v :: rest))) : W p l e R s m args below meth c H locs cells slots Q (F0 m pc ls (.int y :: .int x :: rest)) := by subst hv; exact lv_isub hexec hb hdg k
theorem si_imul (hexec : p.tables.exec = Jvm.exec) (hb : c.code = cc) {x y v : Int32} (hdg : decode cc pc = .ok (.imul, 1)) (hv : x * y = v) (k : W p l e R s m args below meth c H locs cells slots Q (F0 m (pc + 1) ls (.int v :: rest))) : W p l e R s m args below meth c H locs cells slots Q (F0 m pc ls (.int y :: .int x :: rest)) := by subst hv; exact lv_imul hexec hb hdg k
theorem si_iand (hexec : p.tables.exec = Jvm.exec) (hb : c.code = cc) {x y v : Int32} (hdg : decode cc pc = .ok (.iand, 1)) (hv : x &&& y = v) (k : W p l e R s m args below meth c H locs cells slots Q (F0 m (pc + 1) ls (.int v :: rest))) : W p l e R s m args below meth c H locs cells slots Q (F0 m pc ls (.int y :: .int x :: rest)) := by subst hv; exact lv_iand hexec hb hdg k
theorem si_ishr (hexec : p.tables.exec = Jvm.exec) (hb : c.code = cc) {x y v : Int32} (hdg : decode cc pc = .ok (.ishr, 1)) (hv : x >>> (y &&& 31) = v) (k : W p l e R s m args below meth c H locs cells slots Q (F0 m (pc + 1) ls (.int v :: rest))) : W p l e R s m args below meth c H locs cells slots Q (F0 m pc ls (.int y :: .int x :: rest)) := by subst hv; exact lv_ishr hexec hb hdg k
theorem si_idiv (hexec : p.tables.exec = Jvm.exec) (hb : c.code = cc) {x y v : Int32} (hdg : decode cc pc = .ok (.idiv, 1)) (hne : ¬ y = 0) (hv : x / y = v) (k : W p l e R s m args below meth c H locs cells slots Q (F0 m (pc + 1) ls (.int v :: rest))) : W p l e R s m args below meth c H locs cells slots Q (F0 m pc ls (.int y :: .int x :: rest)) := by subst hv; exact lv_idiv hexec hb hdg hne k
theorem si_irem (hexec : p.tables.exec = Jvm.exec) (hb : c.code = cc) {x y v : Int32} (hdg : decode cc pc = .ok (.irem, 1)) (hne : ¬ y = 0) (hv : x - x / y * y = v) (k : W p l e R s m args below meth c H locs cells slots Q (F0 m (pc + 1) ls (.int v :: rest))) : W p l e R s m args below meth c H locs cells slots Q (F0 m pc ls (.int y :: .int x :: rest)) := by subst hv; exact lv_irem hexec hb hdg hne k
theorem si_ldiv (hexec : p.tables.exec = Jvm.exec) (hb : c.code = cc) {x y v : Int64} (hdg : decode cc pc = .ok (.ldiv, 1)) (hne : ¬ y = 0) (hv : x / y = v) (k : W p l e R s m args below meth c H locs cells slots Q (F0 m (pc + 1) ls (.long v :: rest))) : W p l e R s m args below meth c H locs cells slots Q (F0 m pc ls (.long y :: .long x :: rest)) := by subst hv; exact lv_ldiv hexec hb hdg hne k
theorem si_ladd (hexec : p.tables.exec = Jvm.exec) (hb : c.code = cc) {x y v : Int64} (hdg : decode cc pc = .ok (.ladd, 1)) (hv : x + y = v) (k : W p l e R s m args below meth c H locs cells slots Q (F0 m (pc + 1) ls (.long v :: rest))) : W p l e R s m args below meth c H locs cells slots Q (F0 m pc ls (.long y :: .long x :: rest)) := by subst hv; exact lv_ladd hexec hb hdg k
theorem si_lsub (hexec : p.tables.exec = Jvm.exec) (hb : c.code = cc) {x y v : Int64} (hdg : decode cc pc = .ok (.lsub, 1)) (hv : x - y = v) (k : W p l e R s m args below meth c H locs cells slots Q (F0 m (pc + 1) ls (.long v :: rest))) : W p l e R s m args below meth c H locs cells slots Q (F0 m pc ls (.long y :: .long x :: rest)) := by subst hv; exact lv_lsub hexec hb hdg k
theorem si_land (hexec : p.tables.exec = Jvm.exec) (hb : c.code = cc) {x y v : Int64} (hdg : decode cc pc = .ok (.land, 1)) (hv : x &&& y = v) (k : W p l e R s m args below meth c H locs cells slots Q (F0 m (pc + 1) ls (.long v :: rest))) : W p l e R s m args below meth c H locs cells slots Q (F0 m pc ls (.long y :: .long x :: rest)) := by subst hv; exact lv_land hexec hb hdg k
theorem si_lor (hexec : p.tables.exec = Jvm.exec) (hb : c.code = cc) {x y v : Int64} (hdg : decode cc pc = .ok (.lor, 1)) (hv : x ||| y = v) (k : W p l e R s m args below meth c H locs cells slots Q (F0 m (pc + 1) ls (.long v :: rest))) : W p l e R s m args below meth c H locs cells slots Q (F0 m pc ls (.long y :: .long x :: rest)) := by subst hv; exact lv_lor hexec hb hdg k
theorem si_lxor (hexec : p.tables.exec = Jvm.exec) (hb : c.code = cc) {x y v : Int64} (hdg : decode cc pc = .ok (.lxor, 1)) (hv : x ^^^ y = v) (k : W p l e R s m args below meth c H locs cells slots Q (F0 m (pc + 1) ls (.long v :: rest))) : W p l e R s m args below meth c H locs cells slots Q (F0 m pc ls (.long y :: .long x :: rest)) := by subst hv; exact lv_lxor hexec hb hdg k
theorem si_lmul (hexec : p.tables.exec = Jvm.exec) (hb : c.code = cc) {x y v : Int64} (hdg : decode cc pc = .ok (.lmul, 1)) (hv : x * y = v) (k : W p l e R s m args below meth c H locs cells slots Q (F0 m (pc + 1) ls (.long v :: rest))) : W p l e R s m args below meth c H locs cells slots Q (F0 m pc ls (.long y :: .long x :: rest)) := by subst hv; exact lv_lmul hexec hb hdg k
theorem si_icmp_lt (hexec : p.tables.exec = Jvm.exec) (hb : c.code = cc) {a b : Nat} {off : Int} {tgt : Nat} (hdg : decode cc pc = .ok (.if_icmp .lt off, 3)) (ht : (pc : Int) + off = (tgt : Int)) (ha : a < 2 ^ 31) (hb2 : b < 2 ^ 31) (kt : a < b → W p l e R s m args below meth c H locs cells slots Q (F0 m tgt ls rest)) (kf : b ≤ a → W p l e R s m args below meth c H locs cells slots Q (F0 m (pc + 3) ls rest)) : W p l e R s m args below meth c H locs cells slots Q (F0 m pc ls (.int (nI b) :: .int (nI a) :: rest)) := lv_icmp_lt hexec hb hdg ht (fun h => kt ((nI_ltI ha hb2).mp h)) (fun h => kf (Nat.le_of_not_lt (fun q => h ((nI_ltI ha hb2).mpr q))))
theorem si_icmp_ge (hexec : p.tables.exec = Jvm.exec) (hb : c.code = cc) {a b : Nat} {off : Int} {tgt : Nat} (hdg : decode cc pc = .ok (.if_icmp .ge off, 3)) (ht : (pc : Int) + off = (tgt : Int)) (ha : a < 2 ^ 31) (hb2 : b < 2 ^ 31) (kt : b ≤ a → W p l e R s m args below meth c H locs cells slots Q (F0 m tgt ls rest)) (kf : a < b → W p l e R s m args below meth c H locs cells slots Q (F0 m (pc + 3) ls rest)) : W p l e R s m args below meth c H locs cells slots Q (F0 m pc ls (.int (nI b) :: .int (nI a) :: rest)) := lv_icmp_ge hexec hb hdg ht (fun h => kt ((nI_leI hb2 ha).mp h)) (fun h => kf (Nat.lt_of_not_le (fun q => h ((nI_leI hb2 ha).mpr q))))
theorem si_icmp_gt (hexec : p.tables.exec = Jvm.exec) (hb : c.code = cc) {a b : Nat} {off : Int} {tgt : Nat} (hdg : decode cc pc = .ok (.if_icmp .gt off, 3)) (ht : (pc : Int) + off = (tgt : Int)) (ha : a < 2 ^ 31) (hb2 : b < 2 ^ 31) (kt : b < a → W p l e R s m args below meth c H locs cells slots Q (F0 m tgt ls rest)) (kf : a ≤ b → W p l e R s m args below meth c H locs cells slots Q (F0 m (pc + 3) ls rest)) : W p l e R s m args below meth c H locs cells slots Q (F0 m pc ls (.int (nI b) :: .int (nI a) :: rest)) := lv_icmp_gt hexec hb hdg ht (fun h => kt ((nI_ltI hb2 ha).mp h)) (fun h => kf (Nat.le_of_not_lt (fun q => h ((nI_ltI hb2 ha).mpr q))))
theorem si_icmp_le (hexec : p.tables.exec = Jvm.exec) (hb : c.code = cc) {a b : Nat} {off : Int} {tgt : Nat} (hdg : decode cc pc = .ok (.if_icmp .le off, 3)) (ht : (pc : Int) + off = (tgt : Int)) (ha : a < 2 ^ 31) (hb2 : b < 2 ^ 31) (kt : a ≤ b → W p l e R s m args below meth c H locs cells slots Q (F0 m tgt ls rest)) (kf : b < a → W p l e R s m args below meth c H locs cells slots Q (F0 m (pc + 3) ls rest)) : W p l e R s m args below meth c H locs cells slots Q (F0 m pc ls (.int (nI b) :: .int (nI a) :: rest)) := lv_icmp_le hexec hb hdg ht (fun h => kt ((nI_leI ha hb2).mp h)) (fun h => kf (Nat.lt_of_not_le (fun q => h ((nI_leI ha hb2).mpr q))))
theorem si_icmp_eq (hexec : p.tables.exec = Jvm.exec) (hb : c.code = cc) {a b : Nat} {off : Int} {tgt : Nat} (hdg : decode cc pc = .ok (.if_icmp .eq off, 3)) (ht : (pc : Int) + off = (tgt : Int)) (ha : a < 2 ^ 31) (hb2 : b < 2 ^ 31) (kt : a = b → W p l e R s m args below meth c H locs cells slots Q (F0 m tgt ls rest)) (kf : a ≠ b → W p l e R s m args below meth c H locs cells slots Q (F0 m (pc + 3) ls rest)) : W p l e R s m args below meth c H locs cells slots Q (F0 m pc ls (.int (nI b) :: .int (nI a) :: rest)) := lv_icmp_eq hexec hb hdg ht (fun h => kt ((nI_eq ha hb2).mp h)) (fun h => kf (fun q => h ((nI_eq ha hb2).mpr q)))
theorem si_icmp_ne (hexec : p.tables.exec = Jvm.exec) (hb : c.code = cc) {a b : Nat} {off : Int} {tgt : Nat} (hdg : decode cc pc = .ok (.if_icmp .ne off, 3)) (ht : (pc : Int) + off = (tgt : Int)) (ha : a < 2 ^ 31) (hb2 : b < 2 ^ 31) (kt : a ≠ b → W p l e R s m args below meth c H locs cells slots Q (F0 m tgt ls rest)) (kf : a = b → W p l e R s m args below meth c H locs cells slots Q (F0 m (pc + 3) ls rest)) : W p l e R s m args below meth c H locs cells slots Q (F0 m pc ls (.int (nI b) :: .int (nI a) :: rest)) := lv_icmp_ne hexec hb hdg ht (fun h => kt (fun q => h ((nI_eq ha hb2).mpr q))) (fun h => kf ((nI_eq ha hb2).mp h))
theorem si_if_eq (hexec : p.tables.exec = Jvm.exec) (hb : c.code = cc) {a : Nat} {off : Int} {tgt : Nat} (hdg : decode cc pc = .ok (.ifCond .eq off, 3)) (ht : (pc : Int) + off = (tgt : Int)) (ha : a < 2 ^ 31) (kt : a = 0 → W p l e R s m args below meth c H locs cells slots Q (F0 m tgt ls rest)) (kf : a ≠ 0 → W p l e R s m args below meth c H locs cells slots Q (F0 m (pc + 3) ls rest)) : W p l e R s m args below meth c H locs cells slots Q (F0 m pc ls (.int (nI a) :: rest)) := lv_if_eq hexec hb hdg ht (fun h => kt ((nI_eq ha (by decide) : nI a = nI 0 ↔ a = 0).mp (h.trans nI_0.symm))) (fun h => kf (fun q => h (((nI_eq ha (by decide) : nI a = nI 0 ↔ a = 0).mpr q).trans nI_0)))
theorem si_if_ne (hexec : p.tables.exec = Jvm.exec) (hb : c.code = cc) {a : Nat} {off : Int} {tgt : Nat} (hdg : decode cc pc = .ok (.ifCond .ne off, 3)) (ht : (pc : Int) + off = (tgt : Int)) (ha : a < 2 ^ 31) (kt : a ≠ 0 → W p l e R s m args below meth c H locs cells slots Q (F0 m tgt ls rest)) (kf : a = 0 → W p l e R s m args below meth c H locs cells slots Q (F0 m (pc + 3) ls rest)) : W p l e R s m args below meth c H locs cells slots Q (F0 m pc ls (.int (nI a) :: rest)) := lv_if_ne hexec hb hdg ht (fun h => kt (fun q => h (((nI_eq ha (by decide) : nI a = nI 0 ↔ a = 0).mpr q).trans nI_0))) (fun h => kf ((nI_eq ha (by decide) : nI a = nI 0 ↔ a = 0).mp (h.trans nI_0.symm)))
theorem si_if_gt (hexec : p.tables.exec = Jvm.exec) (hb : c.code = cc) {a : Nat} {off : Int} {tgt : Nat} (hdg : decode cc pc = .ok (.ifCond .gt off, 3)) (ht : (pc : Int) + off = (tgt : Int)) (ha : a < 2 ^ 31) (kt : 0 < a → W p l e R s m args below meth c H locs cells slots Q (F0 m tgt ls rest)) (kf : a = 0 → W p l e R s m args below meth c H locs cells slots Q (F0 m (pc + 3) ls rest)) : W p l e R s m args below meth c H locs cells slots Q (F0 m pc ls (.int (nI a) :: rest)) := lv_if_gt hexec hb hdg ht (fun h => kt ((nI_ltI (a := 0) (by decide) ha).mp (nI_0 ▸ h))) (fun h => kf (Nat.le_zero.mp (Nat.le_of_not_lt (fun q => h (nI_0 ▸ (nI_ltI (a := 0) (by decide) ha).mpr q)))))
theorem si_if_le (hexec : p.tables.exec = Jvm.exec) (hb : c.code = cc) {a : Nat} {off : Int} {tgt : Nat} (hdg : decode cc pc = .ok (.ifCond .le off, 3)) (ht : (pc : Int) + off = (tgt : Int)) (ha : a < 2 ^ 31) (kt : a = 0 → W p l e R s m args below meth c H locs cells slots Q (F0 m tgt ls rest)) (kf : 0 < a → W p l e R s m args below meth c H locs cells slots Q (F0 m (pc + 3) ls rest)) : W p l e R s m args below meth c H locs cells slots Q (F0 m pc ls (.int (nI a) :: rest)) := lv_if_le hexec hb hdg ht (fun h => kt (Nat.le_zero.mp ((nI_leI (b := 0) ha (by decide)).mp (nI_0 ▸ h)))) (fun h => kf (Nat.lt_of_not_le (fun q => h (nI_0 ▸ (nI_leI (b := 0) ha (by decide)).mpr q))))
theorem si_if_lt (hexec : p.tables.exec = Jvm.exec) (hb : c.code = cc) {a : Nat} {off : Int} {tgt : Nat} (hdg : decode cc pc = .ok (.ifCond .lt off, 3)) (ht : (pc : Int) + off = (tgt : Int)) (ha : a < 2 ^ 31) (kf : W p l e R s m args below meth c H locs cells slots Q (F0 m (pc + 3) ls rest)) : W p l e R s m args below meth c H locs cells slots Q (F0 m pc ls (.int (nI a) :: rest)) := lv_if_lt hexec hb hdg ht (fun h => absurd h (nI_pos ha)) (fun _ => kf)
theorem si_if_ge (hexec : p.tables.exec = Jvm.exec) (hb : c.code = cc) {a : Nat} {off : Int} {tgt : Nat} (hdg : decode cc pc = .ok (.ifCond .ge off, 3)) (ht : (pc : Int) + off = (tgt : Int)) (ha : a < 2 ^ 31) (kt : W p l e R s m args below meth c H locs cells slots Q (F0 m tgt ls rest)) : W p l e R s m args below meth c H locs cells slots Q (F0 m pc ls (.int (nI a) :: rest)) := lv_if_ge hexec hb hdg ht (fun _ => kt) (fun h => absurd (nI_pos' ha) h)
theorem si_iald (hexec : p.tables.exec = Jvm.exec) (hb : c.code = cc) (hK : va_K D cl tys s) (hP : va_P D cl ws H) (q0 t0 : Nat) {cA : ClassId} {n : Nat} {f : Nat → Int32} (ha : ws[q0]? = some (a, .inl (cA, n, .inl f))) (ht : tys[t0]? = some (cA, .int)) {k : Nat} {v : Int32} (hn : n < 2 ^ 31) (hk : k < n) (hv : f k = v) (hdg : decode cc pc = .ok (.iaload, 1)) (kk : W p l e R s m args below meth c H locs cells slots Q (F0 m (pc + 1) ls (.int v :: rest))) : W p l e R s m args below meth c H locs cells slots Q (F0 m pc ls (.int (nI k) :: .ref a :: rest)) := by
  refine va_iald hexec hb hK hP q0 t0 ha ht (vp_in_nI hk hn) hdg ?_
  rw [nI_clamp (by omega), hv]
  exact kk
theorem si_lald (hexec : p.tables.exec = Jvm.exec) (hb : c.code = cc) (hK : va_K D cl tys s) (hP : va_P D cl ws H) (q0 t0 : Nat) {cA : ClassId} {n : Nat} {f : Nat → Int64} (ha : ws[q0]? = some (a, .inl (cA, n, .inr (.inl f)))) (ht : tys[t0]? = some (cA, .long)) {k : Nat} {v : Int64} (hn : n < 2 ^ 31) (hk : k < n) (hv : f k = v) (hdg : decode cc pc = .ok (.laload, 1)) (kk : W p l e R s m args below meth c H locs cells slots Q (F0 m (pc + 1) ls (.long v :: rest))) : W p l e R s m args below meth c H locs cells slots Q (F0 m pc ls (.int (nI k) :: .ref a :: rest)) := by
  refine va_lald hexec hb hK hP q0 t0 ha ht (vp_in_nI hk hn) hdg ?_
  rw [nI_clamp (by omega), hv]
  exact kk
theorem si_iast (hexec : p.tables.exec = Jvm.exec) (hb : c.code = cc) (hK : va_K D cl tys s) (hP : va_P D cl ws H) (hD : va_D A ws) (hS : va_S A H0 H locs) (q0 t0 : Nat) {cA : ClassId} {n : Nat} {f : Nat → Int32} (ha : ws[q0]? = some (a, .inl (cA, n, .inl f))) (ht : tys[t0]? = some (cA, .int)) {k : Nat} {x : Int32} (hn : n < 2 ^ 31) (hk : k < n) (hdg : decode cc pc = .ok (.iastore, 1)) (kk : ∀ (H1 : Heap) (locs1 : List Loc), va_P D cl (ws.set q0 (a, .inl (cA, n, .inl (upd f k x)))) H1 → va_D A (ws.set q0 (a, .inl (cA, n, .inl (upd f k x)))) → va_S A H0 H1 locs1 → W p l e R s m args below meth c H1 locs1 cells slots Q (F0 m (pc + 1) ls rest)) : W p l e R s m args below meth c H locs cells slots Q (F0 m pc ls (.int x :: .int (nI k) :: .ref a :: rest)) := by
  refine va_iast hexec hb hK hP hD hS q0 t0 ha ht (vp_in_nI hk hn) hdg ?_
  rw [nI_clamp (by omega)]
  exact kk
theorem si_last (hexec : p.tables.exec = Jvm.exec) (hb : c.code = cc) (hK : va_K D cl tys s) (hP : va_P D cl ws H) (hD : va_D A ws) (hS : va_S A H0 H locs) (q0 t0 : Nat) {cA : ClassId} {n : Nat} {f : Nat → Int64} (ha : ws[q0]? = some (a, .inl (cA, n, .inr (.inl f)))) (ht : tys[t0]? = some (cA, .long)) {k : Nat} {x : Int64} (hn : n < 2 ^ 31) (hk : k < n) (hdg : decode cc pc = .ok (.lastore, 1)) (kk : ∀ (H1 : Heap) (locs1 : List Loc), va_P D cl (ws.set q0 (a, .inl (cA, n, .inr (.inl (vp_updL f k x))))) H1 → va_D A (ws.set q0 (a, .inl (cA, n, .inr (.inl (vp_updL f k x))))) → va_S A H0 H1 locs1 → W p l e R s m args below meth c H1 locs1 cells slots Q (F0 m (pc + 1) ls rest)) : W p l e R s m args below meth c H locs cells slots Q (F0 m pc ls (.long x :: .int (nI k) :: .ref a :: rest)) := by
  refine va_last hexec hb hK hP hD hS q0 t0 ha ht (vp_in_nI hk hn) hdg ?_
  rw [nI_clamp (by omega)]
  exact kk
theorem si_inc (i : Nat) : nI i + Int32.ofInt 1 = nI (i + 1) := nI_1 i
theorem si_dec {i : Nat} (h : 1 ≤ i) : nI i + Int32.ofInt (-1) = nI (i - 1) := by
  obtain ⟨k, rfl⟩ : ∃ k, i = k + 1 := ⟨i - 1, by omega⟩
  exact pk_m1 k
theorem si_lc0 (x y : Int64) : lg_cmp x y = 0 ↔ x = y := by
  unfold lg_cmp
  by_cases h : x > y
  · rw [if_pos h]
    exact ⟨fun q => absurd q (by decide), fun q => by subst q; exact absurd h (fun z9 => Int64.lt_irrefl z9)⟩
  · rw [if_neg h]
    by_cases q : x = y
    · rw [if_pos q]; exact ⟨fun _ => q, fun _ => rfl⟩
    · rw [if_neg q]; exact ⟨fun z => absurd z (by decide), fun z => absurd z q⟩
theorem si_lcL (x y : Int64) : lg_cmp x y < 0 ↔ x < y := by
  unfold lg_cmp
  by_cases h : x > y
  · rw [if_pos h]
    exact ⟨fun q => absurd q (by decide), fun q => absurd (Int64.lt_trans h q) (fun z9 => Int64.lt_irrefl z9)⟩
  · rw [if_neg h]
    by_cases q : x = y
    · rw [if_pos q]; exact ⟨fun z => absurd z (by decide), fun z => by subst q; exact absurd z (fun z9 => Int64.lt_irrefl z9)⟩
    · rw [if_neg q]
      refine ⟨fun _ => ?_, fun _ => by decide⟩
      rw [Int64.lt_iff_toInt_lt]
      rw [gt_iff_lt, Int64.lt_iff_toInt_lt] at h
      have : x.toInt ≠ y.toInt := fun z => q (Int64.toInt_inj.mp z)
      omega
theorem si_lcG (x y : Int64) : 0 < lg_cmp x y ↔ y < x := by
  unfold lg_cmp
  by_cases h : x > y
  · rw [if_pos h]; exact ⟨fun _ => h, fun _ => by decide⟩
  · rw [if_neg h]
    refine ⟨fun q => ?_, fun q => absurd q h⟩
    by_cases z : x = y
    · rw [if_pos z] at q; exact absurd q (by decide)
    · rw [if_neg z] at q; exact absurd q (by decide)
end SIW
/-- the numbers of the classes, of their slots, of the two kinds of arrays -/
abbrev si_G : Type := va_G × ClassId × ClassId
abbrev si_T (g : si_G) : List (ClassId × FieldType) := [(g.2.1, .int), (g.2.2, .long)]
/-- the world that a method begins with -/
def si_pre (g : si_G) (cl : List vw_C) (ws : va_W) (sz : Nat) (U : State) : Prop := U.heap.size = sz ∧ va_P g.1 cl ws U.heap ∧ va_K g.1 cl (si_T g) U ∧ va_D (fun _ => True) ws
/-- the world behind a method -/
def si_at (g : si_G) (cl : List vw_C) (A : Nat → Prop) (ws : va_W) (t : State) : Prop := va_P g.1 cl ws t.heap ∧ va_K g.1 cl (si_T g) t ∧ va_D A ws
theorem si_blind (g : si_G) (cl : List vw_C) (ws : va_W) (sz : Nat) (av : List Value) : FrameBlind (va_Pc av (si_pre g cl ws sz)) := fun a U f mk q => by
  obtain ⟨q0, q1, qP, qK, qD⟩ := q
  exact ⟨q0, q1, qP, va_K.moved (u := U) (U := U.calling f mk a) (Vm.Alike.refl U.vm) qK, qD⟩
theorem si_Psub {D : va_G} {cl : List vw_C} {ws ws' : va_W} {H : Heap} (h : va_P D cl ws H) (is : List Nat) (hs : is.map (fun i => ws[i]?) = ws'.map some) : va_P D cl ws' H := fun k q hk => by
  have h1 : (is.map (fun i => ws[i]?))[k]? = some (some q) := by rw [hs, List.getElem?_map, hk]; rfl
  rw [List.getElem?_map] at h1
  cases hi : is[k]? with
  | none => rw [hi] at h1; cases h1
  | some i => rw [hi] at h1; exact h i q (Option.some.inj h1)
theorem si_free {A : Nat → Prop} {ws wc : va_W} {H0 H : Heap} {locs : List Loc} (hD : va_D A ws) (hS : va_S A H0 H locs) (hA : ∀ q, H0.size ≤ q → A q) (isC : List Nat) (hC : isC.map (fun i => ws[i]?) = wc.map some) : ∀ q, va_A wc H.size q → A q := va_free hD hS hA isC hC
def si_Mi {S : Type} (l : Launch) (g : si_G) (cl : List vw_C) (y : MethodName) (w : List Cond) (rm : Room) (av : List Value) (ws : va_W) (post : Int32 → S → Prop) (w1 : S → va_W) : Prop := ∀ sz : Nat, Met l y w rm (va_Pc av (si_pre g cl ws sz)) (va_Qi post (fun u t => si_at g cl (va_A ws sz) (w1 u) t) (va_A ws sz)) rm.cells rm.slots (va_A ws sz)
/-- a contract out of a walk of the body -/
theorem si_Mi.of {S : Type} {l : Launch} {g : si_G} {cl : List vw_C} {y : MethodName} {w w' : List Cond} {rm : Room} {av : List Value} {ws : va_W} {post : Int32 → S → Prop} {w1 : S → va_W} {cc : ByteArray} {maxL : Nat} {ty : FieldType} (hy : plainName y.cls = true) (hw : w = Cond.code y cc maxL (some ty) :: w') (hlen : (lg_sl av).length ≤ maxL)
    (hbody : ∀ (p : Program) (e : Env) (s : State) (m : MethodId) (args : Array Value) (below : List Frame) (meth : Method) (c : Code) (A : Nat → Prop) (Q : State → Prop) (ls : Array Slot),
      CallFix p m c cc maxL s args w y.cls → meth.name = y.name → va_K g.1 cl (si_T g) s → va_P g.1 cl ws s.heap → va_D A ws → (∀ q, s.heap.size ≤ q → A q) → va_S A s.heap s.heap [] → lv_has ls maxL (lv_args 0 av) →
      (∀ (v : Int32) (u : S) (H : Heap) (locs : List Loc) (pc : Nat) (ls : Array Slot), narrow ty (.int v) = .int v → post v u → va_P g.1 cl (w1 u) H → va_D A (w1 u) → va_S A s.heap H locs → decode cc pc = .ok (.ireturn, 1) → W p l e rm s m args below meth c H locs rm.cells rm.slots Q (F0 m pc ls [.int v])) →
      W p l e rm s m args below meth c s.heap [] 0 0 Q (F0 m 0 ls [])) : si_Mi l g cl y w rm av ws post w1 := by
  intro sz
  refine Met.ofW (cc := cc) (maxL := maxL) (ret := (some ty)) hy hw ?_
  intro p e s m args below meth c s₁ B hml hv
  obtain ⟨rfl, hsz, hP, hK, hD0⟩ := hv
  subst hsz
  have hD := hD0.self (sz := s.heap.size)
  have hr := B.returns
  have hlocks := B.notSynchronized
  have hl := lv_entry av (n := maxL) hlen
  rw [lg_entry_eq]
  refine hbody p e s m av.toArray below meth c (va_A ws s.heap.size) _ _ ⟨B.exec, B.bytes, hml, findClass_of_methodNamed B.named, atoms_spec (ws := w) B.pre⟩ (name_of_methodNamed B.named B.method).1 hK hP hD (fun q h => Or.inr h) va_S.rf hl ?_
  intro v u H locs pc ls hn hpost hP1 hD1 hS hdg
  exact W.zret B.exec B.bytes hr hn (fun t ht hW => ⟨⟨v, u, rfl, hpost, by rw [ht]; exact hP1, va_K.moved hW.alike hK, hD1⟩, hS.F ht⟩) hS.2.2 hdg
theorem si_Mi.callV {p : Program} {l : Launch} {e : Env} {R : Room} {s : State} {m : MethodId} {args : Array Value} {below : List Frame} {meth : Method} {c : Code} {H : Heap} {locs : List Loc} {cells slots : Nat} {Q : State → Prop} {cc : ByteArray} {pc nL n index maxL : Nat} {ls : Array Slot} {rest st0 As : List Value} {b : Addr} {C : String} {ret : Option FieldType} {own : String} {Ts : List Cond} {bytes : ByteArray} {A : Nat → Prop} {S : Type} {g : si_G} {cl : List vw_C} {y : MethodName} {w : List Cond} {rm : Room} {ws wc wr : va_W} {post : Int32 → S → Prop} {w1 : S → va_W}
    (hM : si_Mi l g cl y w rm (.ref b :: As) wc post w1) (F : CallFix p m c cc nL s args Ts own) (cw : CallW R s args own C index y bytes maxL ret w rm rm.cells rm.slots n)
    (hK : va_K g.1 cl (si_T g) s) (hP : va_P g.1 cl ws H) (hD : va_D A ws) (hS : va_S A s.heap H locs) (hA : ∀ q, s.heap.size ≤ q → A q)
    (isC isR : List Nat) (hC : isC.map (fun i => ws[i]?) = wc.map some) (hR : isR.map (fun i => ws[i]?) = wr.map some) (hnd : (va_nd isC && va_nd isR) = true) (hdis : ∀ i ∈ isR, i ∉ isC) (hrc : ∃ cell : Cell, H[b]? = some cell ∧ cell.vm.isStatics = false ∧ s.vm.findClass C = some cell.cls)
    (hn : As.length = n) (hsize : ls.size = nL) (hst : st0 = As.reverse ++ .ref b :: rest) (hW : (rest.map fun v => v.category).sum ≤ 8) (hdg : decode cc pc = .ok (.invokevirtual index, 3)) (hf : cells ≤ R.cells ∧ slots ≤ R.slots)
    (hc0 : rm.cells = 0) (hs0 : rm.slots = 0)
    (kk : ∀ (r : Int32) (u : S) (H1 : Heap) (locs1 : List Loc), post r u → va_P g.1 cl (wr ++ w1 u) H1 → va_D A (wr ++ w1 u) → va_S A s.heap H1 locs1 → W p l e R s m args below meth c H1 locs1 cells slots Q (F0 m (pc + 3) ls (.int r :: rest))) :
    W p l e R s m args below meth c H locs cells slots Q (F0 m pc ls st0) := by
  rw [Bool.and_eq_true] at hnd
  have hFc := va_free (wc := wc) hD hS hA isC hC
  have hDc : va_D A wc := hD.sub isC hnd.1 hC
  have hPc : va_P g.1 cl wc H := si_Psub hP isC hC
  subst hst
  refine va_calli (va_runV F (hM H.size) cw ⟨si_blind g cl wc H.size _, hrc, fun U hU hW => ⟨rfl, by rw [hU], by rw [hU]; exact hPc, va_K.moved hW.alike hK, hDc.weaken (fun _ _ _ _ => trivial)⟩⟩ rfl hn hsize rfl (lv_room hW) hdg (by rw [hc0, hs0]; exact hf)) hS (fun q _ h => hFc q h) hFc (fun r u t H1 locs1 ht hvm hpost hB hz hk hS1 => ?_)
  obtain ⟨hP1, hK1, hD1⟩ := hB
  rw [ht] at hP1
  obtain ⟨hP2, hD2⟩ := va_join (w1 := w1 u) hP hD isC isR hC hR hnd.2 hdis hk hFc hP1 hD1
  rw [hc0, hs0]
  exact kk r u H1 locs1 hpost hP2 hD2 hS1
theorem si_Mi.callS {p : Program} {l : Launch} {e : Env} {R : Room} {s : State} {m : MethodId} {args : Array Value} {below : List Frame} {meth : Method} {c : Code} {H : Heap} {locs : List Loc} {cells slots : Nat} {Q : State → Prop} {cc : ByteArray} {pc nL n index maxL : Nat} {ls : Array Slot} {rest st0 As : List Value} {ret : Option FieldType} {own : String} {Ts : List Cond} {bytes : ByteArray} {A : Nat → Prop} {S : Type} {g : si_G} {cl : List vw_C} {y : MethodName} {w : List Cond} {rm : Room} {ws wc wr : va_W} {post : Int32 → S → Prop} {w1 : S → va_W}
    (hM : si_Mi l g cl y w rm As wc post w1) (F : CallFix p m c cc nL s args Ts own) (cw : CallB R s args own index y bytes maxL ret w rm rm.cells rm.slots n ∧ (Cond.static y).before args s = true)
    (hK : va_K g.1 cl (si_T g) s) (hP : va_P g.1 cl ws H) (hD : va_D A ws) (hS : va_S A s.heap H locs) (hA : ∀ q, s.heap.size ≤ q → A q)
    (isC isR : List Nat) (hC : isC.map (fun i => ws[i]?) = wc.map some) (hR : isR.map (fun i => ws[i]?) = wr.map some) (hnd : (va_nd isC && va_nd isR) = true) (hdis : ∀ i ∈ isR, i ∉ isC)
    (hn : As.length = n) (hsize : ls.size = nL) (hst : st0 = As.reverse ++ rest) (hW : (rest.map fun v => v.category).sum ≤ 8) (hdg : decode cc pc = .ok (.invokestatic index, 3)) (hf : cells ≤ R.cells ∧ slots ≤ R.slots)
    (hc0 : rm.cells = 0) (hs0 : rm.slots = 0)
    (kk : ∀ (r : Int32) (u : S) (H1 : Heap) (locs1 : List Loc), post r u → va_P g.1 cl (wr ++ w1 u) H1 → va_D A (wr ++ w1 u) → va_S A s.heap H1 locs1 → W p l e R s m args below meth c H1 locs1 cells slots Q (F0 m (pc + 3) ls (.int r :: rest))) :
    W p l e R s m args below meth c H locs cells slots Q (F0 m pc ls st0) := by
  rw [Bool.and_eq_true] at hnd
  have hFc := va_free (wc := wc) hD hS hA isC hC
  have hDc : va_D A wc := hD.sub isC hnd.1 hC
  have hPc : va_P g.1 cl wc H := si_Psub hP isC hC
  subst hst
  refine va_calli (va_runS F (hM H.size) cw ⟨si_blind g cl wc H.size _, fun U hU hW => ⟨rfl, by rw [hU], by rw [hU]; exact hPc, va_K.moved hW.alike hK, hDc.weaken (fun _ _ _ _ => trivial)⟩⟩ rfl hn hsize rfl (lv_room hW) hdg (by rw [hc0, hs0]; exact hf)) hS (fun q _ h => hFc q h) hFc (fun r u t H1 locs1 ht hvm hpost hB hz hk hS1 => ?_)
  obtain ⟨hP1, hK1, hD1⟩ := hB
  rw [ht] at hP1
  obtain ⟨hP2, hD2⟩ := va_join (w1 := w1 u) hP hD isC isR hC hR hnd.2 hdis hk hFc hP1 hD1
  rw [hc0, hs0]
  exact kk r u H1 locs1 hpost hP2 hD2 hS1
def si_Ml {S : Type} (l : Launch) (g : si_G) (cl : List vw_C) (y : MethodName) (w : List Cond) (rm : Room) (av : List Value) (ws : va_W) (post : Int64 → S → Prop) (w1 : S → va_W) : Prop := ∀ sz : Nat, Met l y w rm (va_Pc av (si_pre g cl ws sz)) (va_Ql post (fun u t => si_at g cl (va_A ws sz) (w1 u) t) (va_A ws sz)) rm.cells rm.slots (va_A ws sz)
/-- a contract out of a walk of the body -/
theorem si_Ml.of {S : Type} {l : Launch} {g : si_G} {cl : List vw_C} {y : MethodName} {w w' : List Cond} {rm : Room} {av : List Value} {ws : va_W} {post : Int64 → S → Prop} {w1 : S → va_W} {cc : ByteArray} {maxL : Nat} (hy : plainName y.cls = true) (hw : w = Cond.code y cc maxL (some .long) :: w') (hlen : (lg_sl av).length ≤ maxL)
    (hbody : ∀ (p : Program) (e : Env) (s : State) (m : MethodId) (args : Array Value) (below : List Frame) (meth : Method) (c : Code) (A : Nat → Prop) (Q : State → Prop) (ls : Array Slot),
      CallFix p m c cc maxL s args w y.cls → meth.name = y.name → va_K g.1 cl (si_T g) s → va_P g.1 cl ws s.heap → va_D A ws → (∀ q, s.heap.size ≤ q → A q) → va_S A s.heap s.heap [] → lv_has ls maxL (lv_args 0 av) →
      (∀ (v : Int64) (u : S) (H : Heap) (locs : List Loc) (pc : Nat) (ls : Array Slot), post v u → va_P g.1 cl (w1 u) H → va_D A (w1 u) → va_S A s.heap H locs → decode cc pc = .ok (.lreturn, 1) → W p l e rm s m args below meth c H locs rm.cells rm.slots Q (F0 m pc ls [.long v])) →
      W p l e rm s m args below meth c s.heap [] 0 0 Q (F0 m 0 ls [])) : si_Ml l g cl y w rm av ws post w1 := by
  intro sz
  refine Met.ofW (cc := cc) (maxL := maxL) (ret := (some .long)) hy hw ?_
  intro p e s m args below meth c s₁ B hml hv
  obtain ⟨rfl, hsz, hP, hK, hD0⟩ := hv
  subst hsz
  have hD := hD0.self (sz := s.heap.size)
  have hr := B.returns
  have hlocks := B.notSynchronized
  have hl := lv_entry av (n := maxL) hlen
  rw [lg_entry_eq]
  refine hbody p e s m av.toArray below meth c (va_A ws s.heap.size) _ _ ⟨B.exec, B.bytes, hml, findClass_of_methodNamed B.named, atoms_spec (ws := w) B.pre⟩ (name_of_methodNamed B.named B.method).1 hK hP hD (fun q h => Or.inr h) va_S.rf hl ?_
  intro v u H locs pc ls hpost hP1 hD1 hS hdg
  exact W.lret B.exec B.bytes hr (fun t ht hW => ⟨⟨v, u, rfl, hpost, by rw [ht]; exact hP1, va_K.moved hW.alike hK, hD1⟩, hS.F ht⟩) hS.2.2 hdg
theorem si_Ml.callV {p : Program} {l : Launch} {e : Env} {R : Room} {s : State} {m : MethodId} {args : Array Value} {below : List Frame} {meth : Method} {c : Code} {H : Heap} {locs : List Loc} {cells slots : Nat} {Q : State → Prop} {cc : ByteArray} {pc nL n index maxL : Nat} {ls : Array Slot} {rest st0 As : List Value} {b : Addr} {C : String} {ret : Option FieldType} {own : String} {Ts : List Cond} {bytes : ByteArray} {A : Nat → Prop} {S : Type} {g : si_G} {cl : List vw_C} {y : MethodName} {w : List Cond} {rm : Room} {ws wc wr : va_W} {post : Int64 → S → Prop} {w1 : S → va_W}
    (hM : si_Ml l g cl y w rm (.ref b :: As) wc post w1) (F : CallFix p m c cc nL s args Ts own) (cw : CallW R s args own C index y bytes maxL ret w rm rm.cells rm.slots n)
    (hK : va_K g.1 cl (si_T g) s) (hP : va_P g.1 cl ws H) (hD : va_D A ws) (hS : va_S A s.heap H locs) (hA : ∀ q, s.heap.size ≤ q → A q)
    (isC isR : List Nat) (hC : isC.map (fun i => ws[i]?) = wc.map some) (hR : isR.map (fun i => ws[i]?) = wr.map some) (hnd : (va_nd isC && va_nd isR) = true) (hdis : ∀ i ∈ isR, i ∉ isC) (hrc : ∃ cell : Cell, H[b]? = some cell ∧ cell.vm.isStatics = false ∧ s.vm.findClass C = some cell.cls)
    (hn : As.length = n) (hsize : ls.size = nL) (hst : st0 = As.reverse ++ .ref b :: rest) (hW : (rest.map fun v => v.category).sum ≤ 8) (hdg : decode cc pc = .ok (.invokevirtual index, 3)) (hf : cells ≤ R.cells ∧ slots ≤ R.slots)
    (hc0 : rm.cells = 0) (hs0 : rm.slots = 0)
    (kk : ∀ (r : Int64) (u : S) (H1 : Heap) (locs1 : List Loc), post r u → va_P g.1 cl (wr ++ w1 u) H1 → va_D A (wr ++ w1 u) → va_S A s.heap H1 locs1 → W p l e R s m args below meth c H1 locs1 cells slots Q (F0 m (pc + 3) ls (.long r :: rest))) :
    W p l e R s m args below meth c H locs cells slots Q (F0 m pc ls st0) := by
  rw [Bool.and_eq_true] at hnd
  have hFc := va_free (wc := wc) hD hS hA isC hC
  have hDc : va_D A wc := hD.sub isC hnd.1 hC
  have hPc : va_P g.1 cl wc H := si_Psub hP isC hC
  subst hst
  refine va_calll (va_runV F (hM H.size) cw ⟨si_blind g cl wc H.size _, hrc, fun U hU hW => ⟨rfl, by rw [hU], by rw [hU]; exact hPc, va_K.moved hW.alike hK, hDc.weaken (fun _ _ _ _ => trivial)⟩⟩ rfl hn hsize rfl (lv_room hW) hdg (by rw [hc0, hs0]; exact hf)) hS (fun q _ h => hFc q h) hFc (fun r u t H1 locs1 ht hvm hpost hB hz hk hS1 => ?_)
  obtain ⟨hP1, hK1, hD1⟩ := hB
  rw [ht] at hP1
  obtain ⟨hP2, hD2⟩ := va_join (w1 := w1 u) hP hD isC isR hC hR hnd.2 hdis hk hFc hP1 hD1
  rw [hc0, hs0]
  exact kk r u H1 locs1 hpost hP2 hD2 hS1
theorem si_Ml.callS {p : Program} {l : Launch} {e : Env} {R : Room} {s : State} {m : MethodId} {args : Array Value} {below : List Frame} {meth : Method} {c : Code} {H : Heap} {locs : List Loc} {cells slots : Nat} {Q : State → Prop} {cc : ByteArray} {pc nL n index maxL : Nat} {ls : Array Slot} {rest st0 As : List Value} {ret : Option FieldType} {own : String} {Ts : List Cond} {bytes : ByteArray} {A : Nat → Prop} {S : Type} {g : si_G} {cl : List vw_C} {y : MethodName} {w : List Cond} {rm : Room} {ws wc wr : va_W} {post : Int64 → S → Prop} {w1 : S → va_W}
    (hM : si_Ml l g cl y w rm As wc post w1) (F : CallFix p m c cc nL s args Ts own) (cw : CallB R s args own index y bytes maxL ret w rm rm.cells rm.slots n ∧ (Cond.static y).before args s = true)
    (hK : va_K g.1 cl (si_T g) s) (hP : va_P g.1 cl ws H) (hD : va_D A ws) (hS : va_S A s.heap H locs) (hA : ∀ q, s.heap.size ≤ q → A q)
    (isC isR : List Nat) (hC : isC.map (fun i => ws[i]?) = wc.map some) (hR : isR.map (fun i => ws[i]?) = wr.map some) (hnd : (va_nd isC && va_nd isR) = true) (hdis : ∀ i ∈ isR, i ∉ isC)
    (hn : As.length = n) (hsize : ls.size = nL) (hst : st0 = As.reverse ++ rest) (hW : (rest.map fun v => v.category).sum ≤ 8) (hdg : decode cc pc = .ok (.invokestatic index, 3)) (hf : cells ≤ R.cells ∧ slots ≤ R.slots)
    (hc0 : rm.cells = 0) (hs0 : rm.slots = 0)
    (kk : ∀ (r : Int64) (u : S) (H1 : Heap) (locs1 : List Loc), post r u → va_P g.1 cl (wr ++ w1 u) H1 → va_D A (wr ++ w1 u) → va_S A s.heap H1 locs1 → W p l e R s m args below meth c H1 locs1 cells slots Q (F0 m (pc + 3) ls (.long r :: rest))) :
    W p l e R s m args below meth c H locs cells slots Q (F0 m pc ls st0) := by
  rw [Bool.and_eq_true] at hnd
  have hFc := va_free (wc := wc) hD hS hA isC hC
  have hDc : va_D A wc := hD.sub isC hnd.1 hC
  have hPc : va_P g.1 cl wc H := si_Psub hP isC hC
  subst hst
  refine va_calll (va_runS F (hM H.size) cw ⟨si_blind g cl wc H.size _, fun U hU hW => ⟨rfl, by rw [hU], by rw [hU]; exact hPc, va_K.moved hW.alike hK, hDc.weaken (fun _ _ _ _ => trivial)⟩⟩ rfl hn hsize rfl (lv_room hW) hdg (by rw [hc0, hs0]; exact hf)) hS (fun q _ h => hFc q h) hFc (fun r u t H1 locs1 ht hvm hpost hB hz hk hS1 => ?_)
  obtain ⟨hP1, hK1, hD1⟩ := hB
  rw [ht] at hP1
  obtain ⟨hP2, hD2⟩ := va_join (w1 := w1 u) hP hD isC isR hC hR hnd.2 hdis hk hFc hP1 hD1
  rw [hc0, hs0]
  exact kk r u H1 locs1 hpost hP2 hD2 hS1
def si_Mv {S : Type} (l : Launch) (g : si_G) (cl : List vw_C) (y : MethodName) (w : List Cond) (rm : Room) (av : List Value) (ws : va_W) (post : S → Prop) (w1 : S → va_W) : Prop := ∀ sz : Nat, Met l y w rm (va_Pc av (si_pre g cl ws sz)) (va_Qv post (fun u t => si_at g cl (va_A ws sz) (w1 u) t) (va_A ws sz)) rm.cells rm.slots (va_A ws sz)
/-- a contract out of a walk of the body -/
theorem si_Mv.of {S : Type} {l : Launch} {g : si_G} {cl : List vw_C} {y : MethodName} {w w' : List Cond} {rm : Room} {av : List Value} {ws : va_W} {post : S → Prop} {w1 : S → va_W} {cc : ByteArray} {maxL : Nat} (hy : plainName y.cls = true) (hw : w = Cond.code y cc maxL none :: w') (hlen : (lg_sl av).length ≤ maxL)
    (hbody : ∀ (p : Program) (e : Env) (s : State) (m : MethodId) (args : Array Value) (below : List Frame) (meth : Method) (c : Code) (A : Nat → Prop) (Q : State → Prop) (ls : Array Slot),
      CallFix p m c cc maxL s args w y.cls → meth.name = y.name → va_K g.1 cl (si_T g) s → va_P g.1 cl ws s.heap → va_D A ws → (∀ q, s.heap.size ≤ q → A q) → va_S A s.heap s.heap [] → lv_has ls maxL (lv_args 0 av) →
      (∀ (u : S) (H : Heap) (locs : List Loc) (pc : Nat) (ls : Array Slot), post u → va_P g.1 cl (w1 u) H → va_D A (w1 u) → va_S A s.heap H locs → decode cc pc = .ok (.return_, 1) → W p l e rm s m args below meth c H locs rm.cells rm.slots Q (F0 m pc ls [])) →
      W p l e rm s m args below meth c s.heap [] 0 0 Q (F0 m 0 ls [])) : si_Mv l g cl y w rm av ws post w1 := by
  intro sz
  refine Met.ofW (cc := cc) (maxL := maxL) (ret := none) hy hw ?_
  intro p e s m args below meth c s₁ B hml hv
  obtain ⟨rfl, hsz, hP, hK, hD0⟩ := hv
  subst hsz
  have hD := hD0.self (sz := s.heap.size)
  have hr := B.returns
  have hlocks := B.notSynchronized
  have hl := lv_entry av (n := maxL) hlen
  rw [lg_entry_eq]
  refine hbody p e s m av.toArray below meth c (va_A ws s.heap.size) _ _ ⟨B.exec, B.bytes, hml, findClass_of_methodNamed B.named, atoms_spec (ws := w) B.pre⟩ (name_of_methodNamed B.named B.method).1 hK hP hD (fun q h => Or.inr h) va_S.rf hl ?_
  intro u H locs pc ls hpost hP1 hD1 hS hdg
  exact W.vret B.exec B.bytes hr (fun t ht hW => ⟨⟨u, rfl, hpost, by rw [ht]; exact hP1, va_K.moved hW.alike hK, hD1⟩, hS.F ht⟩) hS.2.2 hdg
theorem si_Mv.callV {p : Program} {l : Launch} {e : Env} {R : Room} {s : State} {m : MethodId} {args : Array Value} {below : List Frame} {meth : Method} {c : Code} {H : Heap} {locs : List Loc} {cells slots : Nat} {Q : State → Prop} {cc : ByteArray} {pc nL n index maxL : Nat} {ls : Array Slot} {rest st0 As : List Value} {b : Addr} {C : String} {ret : Option FieldType} {own : String} {Ts : List Cond} {bytes : ByteArray} {A : Nat → Prop} {S : Type} {g : si_G} {cl : List vw_C} {y : MethodName} {w : List Cond} {rm : Room} {ws wc wr : va_W} {post : S → Prop} {w1 : S → va_W}
    (hM : si_Mv l g cl y w rm (.ref b :: As) wc post w1) (F : CallFix p m c cc nL s args Ts own) (cw : CallW R s args own C index y bytes maxL ret w rm rm.cells rm.slots n)
    (hK : va_K g.1 cl (si_T g) s) (hP : va_P g.1 cl ws H) (hD : va_D A ws) (hS : va_S A s.heap H locs) (hA : ∀ q, s.heap.size ≤ q → A q)
    (isC isR : List Nat) (hC : isC.map (fun i => ws[i]?) = wc.map some) (hR : isR.map (fun i => ws[i]?) = wr.map some) (hnd : (va_nd isC && va_nd isR) = true) (hdis : ∀ i ∈ isR, i ∉ isC) (hrc : ∃ cell : Cell, H[b]? = some cell ∧ cell.vm.isStatics = false ∧ s.vm.findClass C = some cell.cls)
    (hn : As.length = n) (hsize : ls.size = nL) (hst : st0 = As.reverse ++ .ref b :: rest) (hW : (rest.map fun v => v.category).sum ≤ 8) (hdg : decode cc pc = .ok (.invokevirtual index, 3)) (hf : cells ≤ R.cells ∧ slots ≤ R.slots)
    (hc0 : rm.cells = 0) (hs0 : rm.slots = 0)
    (kk : ∀ (u : S) (H1 : Heap) (locs1 : List Loc), post u → va_P g.1 cl (wr ++ w1 u) H1 → va_D A (wr ++ w1 u) → va_S A s.heap H1 locs1 → W p l e R s m args below meth c H1 locs1 cells slots Q (F0 m (pc + 3) ls (rest))) :
    W p l e R s m args below meth c H locs cells slots Q (F0 m pc ls st0) := by
  rw [Bool.and_eq_true] at hnd
  have hFc := va_free (wc := wc) hD hS hA isC hC
  have hDc : va_D A wc := hD.sub isC hnd.1 hC
  have hPc : va_P g.1 cl wc H := si_Psub hP isC hC
  subst hst
  refine va_callv (va_runV F (hM H.size) cw ⟨si_blind g cl wc H.size _, hrc, fun U hU hW => ⟨rfl, by rw [hU], by rw [hU]; exact hPc, va_K.moved hW.alike hK, hDc.weaken (fun _ _ _ _ => trivial)⟩⟩ rfl hn hsize rfl (lv_room hW) hdg (by rw [hc0, hs0]; exact hf)) hS (fun q _ h => hFc q h) hFc (fun u t H1 locs1 ht hvm hpost hB hz hk hS1 => ?_)
  obtain ⟨hP1, hK1, hD1⟩ := hB
  rw [ht] at hP1
  obtain ⟨hP2, hD2⟩ := va_join (w1 := w1 u) hP hD isC isR hC hR hnd.2 hdis hk hFc hP1 hD1
  rw [hc0, hs0]
  exact kk u H1 locs1 hpost hP2 hD2 hS1
theorem si_Mv.callS {p : Program} {l : Launch} {e : Env} {R : Room} {s : State} {m : MethodId} {args : Array Value} {below : List Frame} {meth : Method} {c : Code} {H : Heap} {locs : List Loc} {cells slots : Nat} {Q : State → Prop} {cc : ByteArray} {pc nL n index maxL : Nat} {ls : Array Slot} {rest st0 As : List Value} {ret : Option FieldType} {own : String} {Ts : List Cond} {bytes : ByteArray} {A : Nat → Prop} {S : Type} {g : si_G} {cl : List vw_C} {y : MethodName} {w : List Cond} {rm : Room} {ws wc wr : va_W} {post : S → Prop} {w1 : S → va_W}
    (hM : si_Mv l g cl y w rm As wc post w1) (F : CallFix p m c cc nL s args Ts own) (cw : CallB R s args own index y bytes maxL ret w rm rm.cells rm.slots n ∧ (Cond.static y).before args s = true)
    (hK : va_K g.1 cl (si_T g) s) (hP : va_P g.1 cl ws H) (hD : va_D A ws) (hS : va_S A s.heap H locs) (hA : ∀ q, s.heap.size ≤ q → A q)
    (isC isR : List Nat) (hC : isC.map (fun i => ws[i]?) = wc.map some) (hR : isR.map (fun i => ws[i]?) = wr.map some) (hnd : (va_nd isC && va_nd isR) = true) (hdis : ∀ i ∈ isR, i ∉ isC)
    (hn : As.length = n) (hsize : ls.size = nL) (hst : st0 = As.reverse ++ rest) (hW : (rest.map fun v => v.category).sum ≤ 8) (hdg : decode cc pc = .ok (.invokestatic index, 3)) (hf : cells ≤ R.cells ∧ slots ≤ R.slots)
    (hc0 : rm.cells = 0) (hs0 : rm.slots = 0)
    (kk : ∀ (u : S) (H1 : Heap) (locs1 : List Loc), post u → va_P g.1 cl (wr ++ w1 u) H1 → va_D A (wr ++ w1 u) → va_S A s.heap H1 locs1 → W p l e R s m args below meth c H1 locs1 cells slots Q (F0 m (pc + 3) ls (rest))) :
    W p l e R s m args below meth c H locs cells slots Q (F0 m pc ls st0) := by
  rw [Bool.and_eq_true] at hnd
  have hFc := va_free (wc := wc) hD hS hA isC hC
  have hDc : va_D A wc := hD.sub isC hnd.1 hC
  have hPc : va_P g.1 cl wc H := si_Psub hP isC hC
  subst hst
  refine va_callv (va_runS F (hM H.size) cw ⟨si_blind g cl wc H.size _, fun U hU hW => ⟨rfl, by rw [hU], by rw [hU]; exact hPc, va_K.moved hW.alike hK, hDc.weaken (fun _ _ _ _ => trivial)⟩⟩ rfl hn hsize rfl (lv_room hW) hdg (by rw [hc0, hs0]; exact hf)) hS (fun q _ h => hFc q h) hFc (fun u t H1 locs1 ht hvm hpost hB hz hk hS1 => ?_)
  obtain ⟨hP1, hK1, hD1⟩ := hB
  rw [ht] at hP1
  obtain ⟨hP2, hD2⟩ := va_join (w1 := w1 u) hP hD isC isR hC hR hnd.2 hdis hk hFc hP1 hD1
  rw [hc0, hs0]
  exact kk u H1 locs1 hpost hP2 hD2 hS1
theorem si_Mv.callI {p : Program} {l : Launch} {e : Env} {R : Room} {s : State} {m : MethodId} {args : Array Value} {below : List Frame} {meth : Method} {c : Code} {H : Heap} {locs : List Loc} {cells slots : Nat} {Q : State → Prop} {cc : ByteArray} {pc nL n index maxL : Nat} {ls : Array Slot} {rest st0 As : List Value} {b : Addr} {own : String} {Ts : List Cond} {bytes : ByteArray} {A : Nat → Prop} {S : Type} {g : si_G} {cl : List vw_C} {y : MethodName} {w : List Cond} {rm : Room} {ws wc wr : va_W} {post : S → Prop} {w1 : S → va_W}
    (hM : si_Mv l g cl y w rm (.ref b :: As) wc post w1) (F : CallFix p m c cc nL s args Ts own) (cw : CallB R s args own index y bytes maxL none w rm rm.cells rm.slots n ∧ y.name = "<init>" ∧ (Cond.instanceMethod y).before args s = true)
    (hK : va_K g.1 cl (si_T g) s) (hP : va_P g.1 cl ws H) (hD : va_D A ws) (hS : va_S A s.heap H locs) (hA : ∀ q, s.heap.size ≤ q → A q)
    (isC isR : List Nat) (hC : isC.map (fun i => ws[i]?) = wc.map some) (hR : isR.map (fun i => ws[i]?) = wr.map some) (hnd : (va_nd isC && va_nd isR) = true) (hdis : ∀ i ∈ isR, i ∉ isC)
    (hn : As.length = n) (hsize : ls.size = nL) (hst : st0 = As.reverse ++ .ref b :: rest) (hW : (rest.map fun v => v.category).sum ≤ 8) (hdg : decode cc pc = .ok (.invokespecial index, 3)) (hf : cells + rm.cells ≤ R.cells ∧ slots + rm.slots ≤ R.slots)
    (kk : ∀ (u : S) (H1 : Heap) (locs1 : List Loc), post u → va_P g.1 cl (wr ++ w1 u) H1 → va_D A (wr ++ w1 u) → va_S A s.heap H1 locs1 → W p l e R s m args below meth c H1 locs1 (cells + rm.cells) (slots + rm.slots) Q (F0 m (pc + 3) ls (rest))) :
    W p l e R s m args below meth c H locs cells slots Q (F0 m pc ls st0) := by
  rw [Bool.and_eq_true] at hnd
  have hFc := va_free (wc := wc) hD hS hA isC hC
  have hDc : va_D A wc := hD.sub isC hnd.1 hC
  have hPc : va_P g.1 cl wc H := si_Psub hP isC hC
  subst hst
  refine va_callv (va_runI F (hM H.size) cw ⟨si_blind g cl wc H.size _, fun U hU hW => ⟨rfl, by rw [hU], by rw [hU]; exact hPc, va_K.moved hW.alike hK, hDc.weaken (fun _ _ _ _ => trivial)⟩⟩ rfl hn hsize rfl (lv_room hW) hdg hf) hS (fun q _ h => hFc q h) hFc (fun u t H1 locs1 ht hvm hpost hB hz hk hS1 => ?_)
  obtain ⟨hP1, hK1, hD1⟩ := hB
  rw [ht] at hP1
  obtain ⟨hP2, hD2⟩ := va_join (w1 := w1 u) hP hD isC isR hC hR hnd.2 hdis hk hFc hP1 hD1
  exact kk u H1 locs1 hpost hP2 hD2 hS1
end
section
/-! Pure rows: rows among the later suffixes; what the questions answer; the number of bits of a word. -/
theorem si_cn_from {n lo : Nat} (F : Nat → Bool) (h : lo < n) : si_cn n (fun i => decide (lo ≤ i) && F i) = si_cn n (fun i => decide (lo + 1 ≤ i) && F i) + (if F lo = true then 1 else 0) := by
  induction n with
  | zero => omega
  | succ n ih =>
    rw [si_cn_s, si_cn_s]
    by_cases e : lo = n
    · subst e
      have h1 : si_cn lo (fun i => decide (lo ≤ i) && F i) = 0 := si_cn_0 (fun i hi => by simp; omega)
      have h2 : si_cn lo (fun i => decide (lo + 1 ≤ i) && F i) = 0 := si_cn_0 (fun i hi => by simp; omega)
      rw [h1, h2]
      have h3 : decide (lo ≤ lo) = true := by simp
      have h4 : decide (lo + 1 ≤ lo) = false := by simp
      rw [h3, h4, Bool.true_and, Bool.false_and, if_neg (by decide : ¬ false = true)]
    · rw [ih (by omega)]
      have h1 : decide (lo ≤ n) = true := by simp; omega
      have h2 : decide (lo + 1 ≤ n) = true := by simp; omega
      rw [h1, h2]
      omega
/-- the row of p among the suffixes from lo on -/
def si_rr (t : List Nat) (lo p : Nat) : Nat := si_cn (t.length + 1) (fun q => decide (lo ≤ q) && si_sf t q p)
theorem si_rr_0 (t : List Nat) (p : Nat) : si_rr t 0 p = si_rk t p := si_cn_congr (fun q _ => by simp)
theorem si_rr_lt {t : List Nat} {lo q p : Nat} (h1 : lo ≤ q) (hq : q ≤ t.length) (h : si_sf t q p = true) : si_rr t lo q < si_rr t lo p := by
  refine si_cn_lt (j := q) (fun i _ hi => ?_) (by omega) ?_ ?_
  · rw [Bool.and_eq_true] at hi ⊢
    exact ⟨hi.1, si_sl_tr hi.2 h⟩
  · have : si_sf t q q = false := si_sl_rf _
    rw [this, Bool.and_false]
  · rw [h]; simp [h1]
theorem si_rr_iff {t : List Nat} {lo q p : Nat} (h1 : lo ≤ q) (h2 : lo ≤ p) (hq : q ≤ t.length) (hp : p ≤ t.length) : si_rr t lo q < si_rr t lo p ↔ si_sf t q p = true := by
  constructor
  · intro h
    by_cases e : q = p
    · subst e; omega
    · rcases si_sf_tot hq hp e with h3 | h3
      · exact h3
      · have := si_rr_lt h2 hp h3; omega
  · exact si_rr_lt h1 hq
theorem si_rr_le (t : List Nat) (lo p : Nat) (hp : p ≤ t.length) : si_rr t lo p ≤ t.length := by
  have h : si_rr t lo p ≤ si_rk t p := si_cn_mono (fun i _ hi => by rw [Bool.and_eq_true] at hi; exact hi.2)
  have := si_rk_le hp
  omega
theorem si_rr_self {t : List Nat} {p : Nat} (hp : p ≤ t.length) : si_rr t p p = si_rr t (p + 1) p := by
  unfold si_rr
  rw [si_cn_from (fun q => si_sf t q p) (by omega)]
  have : si_sf t p p = false := si_sl_rf _
  simp [this]
theorem si_rr_in {t : List Nat} {p q : Nat} (hp : p < q) (hq : q ≤ t.length) : si_rr t p q = si_rr t (p + 1) q + (if si_rr t (p + 1) p ≤ si_rr t (p + 1) q then 1 else 0) := by
  have h0 : si_rr t p q = si_rr t (p + 1) q + (if si_sf t p q = true then 1 else 0) := si_cn_from (fun i => si_sf t i q) (by omega)
  rw [h0]
  by_cases e : si_sf t p q = true
  · have : si_rr t (p + 1) p ≤ si_rr t (p + 1) q := si_cn_mono (fun i _ hi => by
      rw [Bool.and_eq_true] at hi ⊢
      exact ⟨hi.1, si_sl_tr hi.2 e⟩)
    rw [if_pos e, if_pos this]
  · have h1 : si_sf t q p = true := by
      rcases si_sf_tot (t := t) (q := q) (p := p) hq (by omega) (by omega) with h | h
      · exact h
      · exact absurd h e
    have h2 : si_rr t (p + 1) q < si_rr t (p + 1) p := si_rr_lt (by omega) hq h1
    rw [if_neg e, if_neg (by omega)]
/-- one and only one place for every row -/
theorem si_pl_of {t : List Nat} {f : Nat → Int32} (h : ∀ p, p < t.length + 1 → f (si_rk t p) = nI p) : ∀ r, r < t.length + 1 → f r = nI (si_pl t r) := by
  intro r hr
  have h1 := si_pl_ok (t := t) (r := r) (by omega)
  have h2 := h (si_pl t r) (by omega)
  rw [h1.2] at h2
  exact h2
/-- the pattern stands in the text at p -/
def si_oc (t a : List Nat) (p : Nat) : Bool := decide (p + a.length ≤ t.length) && (List.range a.length).all (fun i => si_g t (p + i) == si_g a i)
theorem si_oc_iff {t a : List Nat} {p : Nat} : si_oc t a p = true ↔ p + a.length ≤ t.length ∧ ∀ i, i < a.length → si_g t (p + i) = si_g a i := by
  unfold si_oc
  simp [List.all_eq_true]
/-- a code of the pattern is no END: so it is enough to look at the codes -/
theorem si_oc_iff2 {t a : List Nat} {p : Nat} (ha : ∀ c ∈ a, 32 ≤ c ∧ c ≤ 126) (hp : p ≤ t.length) : si_oc t a p = true ↔ ∀ i, i < a.length → si_g t (p + i) = si_g a i := by
  rw [si_oc_iff]
  constructor
  · exact fun h => h.2
  · intro h
    refine ⟨?_, h⟩
    cases hl : a.length with
    | zero => omega
    | succ k =>
      have h1 := h k (by omega)
      have h2 : si_g a k = a[k] := si_g_in (by omega)
      have h3 := ha _ (List.getElem_mem (show k < a.length by omega))
      rw [h2] at h1
      apply Classical.byContradiction
      intro hn
      rw [si_g_out (by omega)] at h1
      omega
/-- the answer of firstRow where a text is loaded -/
def si_fr (t a : List Nat) (v : Int32) : Prop := (v = -1 ∧ ∀ p, p ≤ t.length → si_oc t a p = false) ∨ ∃ r, r ≤ t.length ∧ v = nI r ∧ si_oc t a (si_pl t r) = true ∧ ∀ q, q < r → si_oc t a (si_pl t q) = false
/-- the answer of locate where a text is loaded, and k is no negative number -/
def si_lc (t a : List Nat) (k : Nat) (v : Int32) : Prop := (v = -1 ∧ si_cn (t.length + 1) (si_oc t a) ≤ k) ∨ ∃ p, p ≤ t.length ∧ v = nI p ∧ si_oc t a p = true ∧ si_cn p (si_oc t a) = k
theorem si_fr_one {t a : List Nat} {v w : Int32} (h1 : si_fr t a v) (h2 : si_fr t a w) : v = w := by
  have key : ∀ {r}, r ≤ t.length → si_oc t a (si_pl t r) = true → ¬ ∀ p, p ≤ t.length → si_oc t a p = false := by
    intro r hr h hn
    rw [hn _ (si_pl_ok hr).1] at h
    cases h
  rcases h1 with ⟨e1, n1⟩ | ⟨r1, l1, e1, o1, m1⟩ <;> rcases h2 with ⟨e2, n2⟩ | ⟨r2, l2, e2, o2, m2⟩
  · rw [e1, e2]
  · exact absurd n1 (key l2 o2)
  · exact absurd n2 (key l1 o1)
  · rcases Nat.lt_trichotomy r1 r2 with q | q | q
    · rw [m2 r1 q] at o1; cases o1
    · rw [e1, e2, q]
    · rw [m1 r2 q] at o2; cases o2
theorem si_lc_one {t a : List Nat} {k : Nat} {v w : Int32} (h1 : si_lc t a k v) (h2 : si_lc t a k w) : v = w := by
  have key : ∀ {p}, p ≤ t.length → si_oc t a p = true → si_cn p (si_oc t a) = k → ¬ si_cn (t.length + 1) (si_oc t a) ≤ k := by
    intro p hp ho hc hn
    have := si_cn_ups (b := t.length + 1) (show p < t.length + 1 by omega) ho
    omega
  rcases h1 with ⟨e1, n1⟩ | ⟨p1, l1, e1, o1, m1⟩ <;> rcases h2 with ⟨e2, n2⟩ | ⟨p2, l2, e2, o2, m2⟩
  · rw [e1, e2]
  · exact absurd n1 (key l2 o2 m2)
  · exact absurd n2 (key l1 o1 m1)
  · rcases Nat.lt_trichotomy p1 p2 with q | q | q
    · have := si_cn_ups q o1; omega
    · rw [e1, e2, q]
    · have := si_cn_ups q o2; omega
/-- the character c stands before a place where the pattern stands -/
def si_fo (t a : List Nat) (c : Nat) : Bool := (List.range t.length).any (fun p => si_g t p == c && si_oc t a (p + 1))
def si_va (t a : List Nat) : Nat := si_cn 127 (fun c => decide (32 ≤ c) && si_fo t a c)
-- bits of a word, byte by byte
def si_tb (x i : Nat) : Bool := x.testBit i
theorem si_cn_app (k n : Nat) (P : Nat → Bool) : si_cn (k + n) P = si_cn k P + si_cn n (fun i => P (k + i)) := by
  induction n with
  | zero => rfl
  | succ n ih => rw [show k + (n + 1) = (k + n) + 1 by omega, si_cn_s, si_cn_s, ih]; omega
theorem si_ldB {u v w z : Nat} (hv : v < 256) (hz : z < 256) : (256 * u + v) &&& (256 * w + z) = 256 * (u &&& w) + (v &&& z) := by
  have e : (256 : Nat) = 2 ^ 8 := by decide
  have hvz : v &&& z < 2 ^ 8 := Nat.and_lt_two_pow _ (by omega)
  apply Nat.eq_of_testBit_eq
  intro i
  rw [Nat.testBit_and, e, Nat.testBit_two_pow_mul_add _ (by omega), Nat.testBit_two_pow_mul_add _ (by omega), Nat.testBit_two_pow_mul_add _ hvz]
  by_cases h : i < 8
  · rw [if_pos h, if_pos h, if_pos h, Nat.testBit_and]
  · rw [if_neg h, if_neg h, if_neg h, Nat.testBit_and]
def si_m (b : Nat) : Nat → Nat
  | 0 => 0
  | k + 1 => 256 * si_m b k + b
/-- the steps of the count of bits, on k bytes -/
def si_s1 (k x : Nat) : Nat := x - (x / 2 &&& si_m 85 k)
def si_s2 (k x : Nat) : Nat := (si_s1 k x &&& si_m 51 k) + (si_s1 k x / 4 &&& si_m 51 k)
def si_s3 (k x : Nat) : Nat := (si_s2 k x + si_s2 k x / 16) &&& si_m 15 k
def si_p1 (b : Nat) : Nat := b - (b / 2 &&& 85)
def si_p2 (b : Nat) : Nat := (si_p1 b &&& 51) + (si_p1 b / 4 &&& 51)
def si_p3 (b : Nat) : Nat := (si_p2 b + si_p2 b / 16) % 16
theorem si_d1 : ∀ b, b < 256 → (b / 2 &&& 85) ≤ b ∧ ((128 + b / 2) &&& 85) = (b / 2 &&& 85) ∧ si_p1 b < 256 := by decide +kernel
theorem si_d2 : ∀ q, q < 256 → (q / 4 &&& 51) < 52 ∧ (q &&& 51) < 52 ∧ ((64 + q / 4) &&& 51) = (q / 4 &&& 51) ∧ ((128 + q / 4) &&& 51) = (q / 4 &&& 51) ∧ ((192 + q / 4) &&& 51) = (q / 4 &&& 51) := by decide +kernel
theorem si_d3 : ∀ q, q < 256 → (q &&& 15) = q % 16 := by decide +kernel
theorem si_d4 : ∀ b, b < 256 → si_cn 8 (si_tb b) = si_p3 b ∧ si_p3 b ≤ 8 := by decide +kernel
theorem si_s1_s {k y b : Nat} (hb : b < 256) : si_s1 (k + 1) (256 * y + b) = 256 * si_s1 k y + si_p1 b := by
  obtain ⟨h1, h2, h3⟩ := si_d1 b hb
  have e : (256 * y + b) / 2 = 256 * (y / 2) + (128 * (y % 2) + b / 2) := by omega
  have e2 : ((256 * y + b) / 2 &&& si_m 85 (k + 1)) = 256 * (y / 2 &&& si_m 85 k) + (b / 2 &&& 85) := by
    rw [e]
    show (256 * (y / 2) + (128 * (y % 2) + b / 2)) &&& (256 * si_m 85 k + 85) = _
    rw [si_ldB (by omega) (by omega)]
    congr 1
    rcases Nat.mod_two_eq_zero_or_one y with q | q
    · rw [q]; simp
    · rw [q]; exact h2
  unfold si_s1
  rw [e2]
  have h4 : (y / 2 &&& si_m 85 k) ≤ y := Nat.le_trans Nat.and_le_left (Nat.div_le_self _ _)
  unfold si_p1
  omega
theorem si_s2_s {k y b : Nat} (hb : b < 256) : si_s2 (k + 1) (256 * y + b) = 256 * si_s2 k y + si_p2 b := by
  obtain ⟨-, -, h3⟩ := si_d1 b hb
  obtain ⟨d1, d2, d3, d4, d5⟩ := si_d2 (si_p1 b) h3
  unfold si_s2
  rw [si_s1_s hb]
  have e : (256 * si_s1 k y + si_p1 b) / 4 = 256 * (si_s1 k y / 4) + (64 * (si_s1 k y % 4) + si_p1 b / 4) := by omega
  have e2 : ((256 * si_s1 k y + si_p1 b) / 4 &&& si_m 51 (k + 1)) = 256 * (si_s1 k y / 4 &&& si_m 51 k) + (si_p1 b / 4 &&& 51) := by
    rw [e]
    show (256 * (si_s1 k y / 4) + (64 * (si_s1 k y % 4) + si_p1 b / 4)) &&& (256 * si_m 51 k + 51) = _
    rw [si_ldB (by omega) (by omega)]
    congr 1
    rcases (show si_s1 k y % 4 = 0 ∨ si_s1 k y % 4 = 1 ∨ si_s1 k y % 4 = 2 ∨ si_s1 k y % 4 = 3 by omega) with q | q | q | q
    · rw [q]; simp
    · rw [q]; exact d3
    · rw [q]; exact d4
    · rw [q]; exact d5
  have e3 : ((256 * si_s1 k y + si_p1 b) &&& si_m 51 (k + 1)) = 256 * (si_s1 k y &&& si_m 51 k) + (si_p1 b &&& 51) := by
    show (256 * si_s1 k y + si_p1 b) &&& (256 * si_m 51 k + 51) = _
    exact si_ldB h3 (by omega)
  rw [e2, e3]
  unfold si_p2
  omega
theorem si_low51 (k a : Nat) : (a &&& si_m 51 k) % 16 ≤ 3 := by
  cases k with
  | zero => simp [si_m]
  | succ k =>
    have h1 : a = 256 * (a / 256) + a % 256 := by omega
    have h2 : (a &&& si_m 51 (k + 1)) = 256 * (a / 256 &&& si_m 51 k) + (a % 256 &&& 51) := by
      show (a &&& (256 * si_m 51 k + 51)) = _
      rw (occs := .pos [1]) [h1]
      exact si_ldB (by omega) (by omega)
    have h3 : ∀ q, q < 256 → (q &&& 51) % 16 ≤ 3 := by decide +kernel
    have h4 := h3 (a % 256) (by omega)
    rw [h2]
    omega
theorem si_s3_s {k y b : Nat} (hb : b < 256) : si_s3 (k + 1) (256 * y + b) = 256 * si_s3 k y + si_p3 b := by
  have h1 : si_s2 k y % 16 ≤ 6 := by
    have a1 := si_low51 k (si_s1 k y)
    have a2 := si_low51 k (si_s1 k y / 4)
    unfold si_s2
    omega
  obtain ⟨-, -, h3⟩ := si_d1 b hb
  obtain ⟨d1, d2, -, -, -⟩ := si_d2 (si_p1 b) h3
  have h2 : si_p2 b < 104 := by unfold si_p2; omega
  unfold si_s3
  rw [si_s2_s hb]
  have e : 256 * si_s2 k y + si_p2 b + (256 * si_s2 k y + si_p2 b) / 16 = 256 * (si_s2 k y + si_s2 k y / 16) + (si_p2 b + si_p2 b / 16 + 16 * (si_s2 k y % 16)) := by omega
  rw [e]
  show (256 * (si_s2 k y + si_s2 k y / 16) + (si_p2 b + si_p2 b / 16 + 16 * (si_s2 k y % 16))) &&& (256 * si_m 15 k + 15) = _
  rw [si_ldB (by omega) (by omega), si_d3 _ (by omega)]
  unfold si_p3
  omega
theorem si_bytes_cn {k y b : Nat} (hb : b < 256) : si_cn (8 + k) (si_tb (256 * y + b)) = si_p3 b + si_cn k (si_tb y) := by
  have e : (256 : Nat) = 2 ^ 8 := by decide
  rw [si_cn_app]
  congr 1
  · rw [← (si_d4 b hb).1]
    refine si_cn_congr (fun i hi => ?_)
    unfold si_tb
    rw [e, Nat.testBit_two_pow_mul_add _ (by omega), if_pos hi]
  · refine si_cn_congr (fun i hi => ?_)
    unfold si_tb
    rw [e, Nat.testBit_two_pow_mul_add _ (by omega), if_neg (by omega), Nat.add_sub_cancel_left]
/-- the count of bits of eight bytes, as the machine's library does it -/
theorem si_pop {x s4 s5 s6 : Nat} (hx : x < 2 ^ 64) (h4 : s4 = si_s3 8 x + si_s3 8 x / 256) (h5 : s5 = s4 + s4 / 65536) (h6 : s6 = s5 + s5 / 4294967296) : s6 % 128 = si_cn 64 (si_tb x) := by
  obtain ⟨y7, b0, e0, k0, l0⟩ : ∃ y b, x = 256 * y + b ∧ b < 256 ∧ y < 2 ^ 56 := ⟨x / 256, x % 256, by omega, by omega, by omega⟩
  obtain ⟨y6, b1, e1, k1, l1⟩ : ∃ y b, y7 = 256 * y + b ∧ b < 256 ∧ y < 2 ^ 48 := ⟨y7 / 256, y7 % 256, by omega, by omega, by omega⟩
  obtain ⟨y5, b2, e2, k2, l2⟩ : ∃ y b, y6 = 256 * y + b ∧ b < 256 ∧ y < 2 ^ 40 := ⟨y6 / 256, y6 % 256, by omega, by omega, by omega⟩
  obtain ⟨y4, b3, e3, k3, l3⟩ : ∃ y b, y5 = 256 * y + b ∧ b < 256 ∧ y < 2 ^ 32 := ⟨y5 / 256, y5 % 256, by omega, by omega, by omega⟩
  obtain ⟨y3, b4, e4, k4, l4⟩ : ∃ y b, y4 = 256 * y + b ∧ b < 256 ∧ y < 2 ^ 24 := ⟨y4 / 256, y4 % 256, by omega, by omega, by omega⟩
  obtain ⟨y2, b5, e5, k5, l5⟩ : ∃ y b, y3 = 256 * y + b ∧ b < 256 ∧ y < 2 ^ 16 := ⟨y3 / 256, y3 % 256, by omega, by omega, by omega⟩
  obtain ⟨b7, b6, e6, k6, k7⟩ : ∃ y b, y2 = 256 * y + b ∧ b < 256 ∧ y < 256 := ⟨y2 / 256, y2 % 256, by omega, by omega, by omega⟩
  have z : ∀ b, b < 256 → si_s3 1 b = si_p3 b := fun b hb => by
    have := si_s3_s (k := 0) (y := 0) hb
    rw [show 256 * 0 + b = b by omega] at this
    have e9 : si_s3 1 b = 256 * si_s3 0 0 + si_p3 b := this
    have : si_s3 0 0 = 0 := rfl
    omega
  have zc : ∀ b, b < 256 → si_cn 8 (si_tb b) = si_p3 b := fun b hb => (si_d4 b hb).1
  have hs : si_s3 8 x = 256 * (256 * (256 * (256 * (256 * (256 * (256 * si_p3 b7 + si_p3 b6) + si_p3 b5) + si_p3 b4) + si_p3 b3) + si_p3 b2) + si_p3 b1) + si_p3 b0 := by
    rw [e0, si_s3_s k0, e1, si_s3_s k1, e2, si_s3_s k2, e3, si_s3_s k3, e4, si_s3_s k4, e5, si_s3_s k5, e6, si_s3_s k6, z b7 k7]
  have hc : si_cn 64 (si_tb x) = si_p3 b0 + (si_p3 b1 + (si_p3 b2 + (si_p3 b3 + (si_p3 b4 + (si_p3 b5 + (si_p3 b6 + si_p3 b7)))))) := by
    rw [e0, show (64 : Nat) = 8 + 56 by rfl, si_bytes_cn k0, e1, show (56 : Nat) = 8 + 48 by rfl, si_bytes_cn k1, e2, show (48 : Nat) = 8 + 40 by rfl, si_bytes_cn k2, e3, show (40 : Nat) = 8 + 32 by rfl, si_bytes_cn k3, e4, show (32 : Nat) = 8 + 24 by rfl, si_bytes_cn k4, e5, show (24 : Nat) = 8 + 16 by rfl, si_bytes_cn k5, e6, show (16 : Nat) = 8 + 8 by rfl, si_bytes_cn k6, zc b7 k7]
  have p0 := (si_d4 b0 k0).2
  have p1 := (si_d4 b1 k1).2
  have p2 := (si_d4 b2 k2).2
  have p3 := (si_d4 b3 k3).2
  have p4 := (si_d4 b4 k4).2
  have p5 := (si_d4 b5 k5).2
  have p6 := (si_d4 b6 k6).2
  have p7 := (si_d4 b7 k7).2
  rw [hc]
  rw [hs] at h4
  clear hs hc z zc e0 e1 e2 e3 e4 e5 e6
  generalize si_p3 b0 = q0 at *
  generalize si_p3 b1 = q1 at *
  generalize si_p3 b2 = q2 at *
  generalize si_p3 b3 = q3 at *
  generalize si_p3 b4 = q4 at *
  generalize si_p3 b5 = q5 at *
  generalize si_p3 b6 = q6 at *
  generalize si_p3 b7 = q7 at *
  have f4 : s4 = 256 * (256 * (256 * (256 * (256 * (256 * (256 * q7 + (q6 + q7)) + (q5 + q6)) + (q4 + q5)) + (q3 + q4)) + (q2 + q3)) + (q1 + q2)) + (q0 + q1) := by omega
  have f5 : s5 % 65536 = (s4 + s4 / 65536) % 65536 := by rw [h5]
  have g5 : s5 = 256 * (256 * (256 * (256 * (256 * (256 * (256 * q7 + (q6 + q7)) + (q5 + q6 + q7)) + (q4 + q5 + q6 + q7)) + (q3 + q4 + q5 + q6)) + (q2 + q3 + q4 + q5)) + (q1 + q2 + q3 + q4)) + (q0 + q1 + q2 + q3) := by omega
  have g6 : s5 / 4294967296 = 256 * (256 * (256 * q7 + (q6 + q7)) + (q5 + q6 + q7)) + (q4 + q5 + q6 + q7) := by omega
  omega
/-- a line holds the text t -/
def si_ln (t : List Nat) (f : Nat → Int32) : Prop := ∀ i, i < t.length → f i = nI (si_g t i)
/-- rows and places of the suffixes of t -/
def si_su (t : List Nat) (fr fp : Nat → Int32) : Prop := (∀ p, p < t.length + 1 → fr p = nI (si_rk t p)) ∧ ∀ r, r < t.length + 1 → fp r = nI (si_pl t r)
/-- codeAt: what stands at p -/
def si_ca (f : Nat → Int32) (sz : Nat) (p v : Int32) : Prop := (∃ k, k < sz ∧ p = nI k ∧ v = f k) ∨ ((p < 0 ∨ nI sz ≤ p) ∧ v = 0)
theorem si_ca_n {t : List Nat} {f : Nat → Int32} (h : si_ln t f) (hn : t.length < 2 ^ 31) {k : Nat} (hk : k < 2 ^ 31) : si_ca f t.length (nI k) (nI (si_g t k)) := by
  by_cases q : k < t.length
  · exact Or.inl ⟨k, q, rfl, (h k q).symm⟩
  · refine Or.inr ⟨Or.inr (nI_le (by omega) hk), ?_⟩
    rw [si_g_out (by omega)]
    rfl
end
section
/-! Small rows for the walks. -/
theorem si_bn (b : Bool) : b.toNat < 2 ^ 31 := by cases b <;> decide
theorem si_nb (b : Bool) : narrow .boolean (.int (nI b.toNat)) = .int (nI b.toNat) := by cases b <;> rfl
theorem si_b0 {b : Bool} (h : b.toNat = 0) : b = false := by cases b <;> first | rfl | exact absurd h (by decide)
theorem si_b1 {b : Bool} (h : b.toNat ≠ 0) : b = true := by cases b <;> first | rfl | exact absurd rfl h
theorem si_bt1 {b : Bool} (h : b = true) : b.toNat = 1 := by rw [h]; rfl
theorem si_bt0 {b : Bool} (h : b = false) : b.toNat = 0 := by rw [h]; rfl
theorem si_nt {b : Bool} (h : ¬ b = true) : b = false := by cases b <;> first | rfl | exact absurd rfl h
/-- a number that goes down to -1: k are left -/
def si_dw (p : Int32) (k : Nat) : Prop := (p = -1 ∧ k = 0) ∨ ∃ j, k = j + 1 ∧ p = nI j
theorem si_dw_s (j : Nat) : si_dw (nI j + Int32.ofInt (-1)) j := by
  cases j with
  | zero => exact Or.inl ⟨by decide, rfl⟩
  | succ j => exact Or.inr ⟨j, rfl, pk_m1 j⟩
theorem si_dw_m (j : Nat) : si_dw (nI j - nI 1) j := by
  cases j with
  | zero => exact Or.inl ⟨by decide, rfl⟩
  | succ j => exact Or.inr ⟨j, rfl, nI_pred j⟩
theorem si_dw_i (n : Nat) : si_dw (nI n) (n + 1) := Or.inr ⟨n, rfl, rfl⟩
theorem si_dw_0 {p : Int32} {k : Nat} (hk : k < 2 ^ 31) (h : si_dw p k) (hp : p < 0) : k = 0 := by
  rcases h with ⟨-, h⟩ | ⟨j, h1, h2⟩
  · exact h
  · subst h2
    exact absurd hp (nI_pos (by omega))
theorem si_dw_1 {p : Int32} {k : Nat} (h : si_dw p k) (hp : ¬ p < 0) : ∃ j, k = j + 1 ∧ p = nI j := by
  rcases h with ⟨h, -⟩ | h
  · subst h
    exact absurd (by decide) hp
  · exact h
theorem si_bz (b : Bool) : lg_cmp (if b = true then 1 else 0) 0 = 0 ↔ b = false := by
  rw [si_lc0]
  cases b
  · simp
  · simp
theorem si_ca_b {t : List Nat} {f : Nat → Int32} (h : si_ln t f) {p : Nat} (hp : p ≤ t.length) (hn : t.length < 2 ^ 31) : si_ca f t.length (nI p - nI 1) (nI (si_bf t p)) := by
  cases p with
  | zero =>
    refine Or.inr ⟨Or.inl (by decide), ?_⟩
    rfl
  | succ k =>
    have e : nI (k + 1) - nI 1 = nI k := nI_pred k
    refine Or.inl ⟨k, by omega, e, ?_⟩
    rw [h k (by omega)]
    rfl
theorem si_or0 (w : Int64) : w ||| 0 = w := by
  apply wb_inj
  rw [Int64.toBitVec_or]
  show w.toBitVec ||| 0#64 = _
  simp
theorem si_wd_s (b : Nat → Bool) {n : Nat} (hn : n < 64) : si_wd n b ||| (lN (b n).toNat <<< ((nI n).toInt64 &&& 63)) = si_wd (n + 1) b := by
  cases h : b n with
  | true => rw [si_wd_t h]; rfl
  | false =>
    rw [si_wd_f h]
    show si_wd n b ||| (lN 0 <<< ((nI n).toInt64 &&& 63)) = _
    rw [wb_shl 0 hn, Nat.zero_mul]
    exact si_or0 _
theorem si_sl5 : ∀ n, n < 32 → ((nI n &&& 31).toBitVec.smod 32).toNat = n := by decide +kernel
theorem si_btn (j c : Nat) : (si_bt j c).toNat = c / 2 ^ (6 - j) % 2 := by
  unfold si_bt
  rcases Nat.mod_two_eq_zero_or_one (c / 2 ^ (6 - j)) with h | h <;> rw [h] <;> rfl
end
