/-! Pure rows: counting, ranks of suffixes, the step from a row to the row of the place before it. -/
/-- how many i < n have P -/
def si_cn : Nat → (Nat → Bool) → Nat
  | 0, _ => 0
  | n + 1, P => si_cn n P + (if P n = true then 1 else 0)
theorem si_cn_s (n : Nat) (P : Nat → Bool) : si_cn (n + 1) P = si_cn n P + (if P n = true then 1 else 0) := rfl
theorem si_cn_t {n : Nat} {P : Nat → Bool} (h : P n = true) : si_cn (n + 1) P = si_cn n P + 1 := by rw [si_cn_s, if_pos h]
theorem si_cn_f {n : Nat} {P : Nat → Bool} (h : P n = false) : si_cn (n + 1) P = si_cn n P := by
  rw [si_cn_s, if_neg (by rw [h]; decide), Nat.add_zero]
theorem si_cn_le (n : Nat) (P : Nat → Bool) : si_cn n P ≤ n := by
  induction n with
  | zero => exact Nat.le_refl 0
  | succ n ih => rw [si_cn_s]; split <;> omega
theorem si_cn_congr {n : Nat} {P Q : Nat → Bool} (h : ∀ i, i < n → P i = Q i) : si_cn n P = si_cn n Q := by
  induction n with
  | zero => rfl
  | succ n ih => rw [si_cn_s, si_cn_s, ih (fun i hi => h i (by omega)), h n (by omega)]
theorem si_cn_mono {n : Nat} {P Q : Nat → Bool} (h : ∀ i, i < n → P i = true → Q i = true) : si_cn n P ≤ si_cn n Q := by
  induction n with
  | zero => exact Nat.le_refl 0
  | succ n ih =>
    have h1 := ih (fun i hi => h i (by omega))
    have h2 := h n (by omega)
    rw [si_cn_s, si_cn_s]
    by_cases hp : P n = true
    · rw [if_pos hp, if_pos (h2 hp)]; omega
    · rw [if_neg hp]; split <;> omega
theorem si_cn_lt {n j : Nat} {P Q : Nat → Bool} (h : ∀ i, i < n → P i = true → Q i = true) (hj : j < n) (h1 : P j = false) (h2 : Q j = true) : si_cn n P < si_cn n Q := by
  induction n with
  | zero => omega
  | succ n ih =>
    by_cases e : j = n
    · subst e
      have := si_cn_mono (n := j) (P := P) (Q := Q) (fun i hi => h i (by omega))
      rw [si_cn_f h1, si_cn_t h2]; omega
    · have := ih (fun i hi => h i (by omega)) (by omega)
      have h3 := h n (by omega)
      rw [si_cn_s, si_cn_s]
      by_cases hp : P n = true
      · rw [if_pos hp, if_pos (h3 hp)]; omega
      · rw [if_neg hp]; split <;> omega
theorem si_cn_up {a b : Nat} (P : Nat → Bool) (h : a ≤ b) : si_cn a P ≤ si_cn b P := by
  induction b with
  | zero => have : a = 0 := by omega
            subst this; exact Nat.le_refl _
  | succ b ih =>
    by_cases e : a = b + 1
    · subst e; exact Nat.le_refl _
    · have := ih (by omega)
      rw [si_cn_s]; split <;> omega
theorem si_cn_ups {a b : Nat} {P : Nat → Bool} (h : a < b) (hP : P a = true) : si_cn a P < si_cn b P := by
  have := si_cn_up P (show a + 1 ≤ b from h)
  rw [si_cn_t hP] at this
  omega
theorem si_cn_all (n : Nat) : si_cn n (fun _ => true) = n := by
  induction n with
  | zero => rfl
  | succ n ih => rw [si_cn_t rfl, ih]
theorem si_cn_0 {n : Nat} {P : Nat → Bool} (h : ∀ i, i < n → P i = false) : si_cn n P = 0 := by
  induction n with
  | zero => rfl
  | succ n ih => rw [si_cn_f (h n (by omega)), ih (fun i hi => h i (by omega))]
theorem si_cn_1 {n : Nat} {P : Nat → Bool} (h : ∀ i j, i < n → j < n → P i = true → P j = true → i = j) : si_cn n P ≤ 1 := by
  induction n with
  | zero => exact Nat.zero_le _
  | succ n ih =>
    by_cases hp : P n = true
    · rw [si_cn_t hp, si_cn_0 (n := n)]
      · omega
      · intro i hi
        cases hq : P i with
        | false => rfl
        | true => have := h i n (by omega) (by omega) hq hp
                  omega
    · rw [si_cn_f (by simpa using hp)]
      exact ih (fun i j hi hj => h i j (by omega) (by omega))
theorem si_cn_not (n : Nat) (P : Nat → Bool) : si_cn n P + si_cn n (fun i => !P i) = n := by
  induction n with
  | zero => rfl
  | succ n ih =>
    cases hp : P n with
    | true => rw [si_cn_t hp, si_cn_f (P := fun i => !P i) (by simp [hp])]; omega
    | false => rw [si_cn_f hp, si_cn_t (P := fun i => !P i) (by simp [hp])]; omega
/-- a sum -/
def si_sm : Nat → (Nat → Nat) → Nat
  | 0, _ => 0
  | n + 1, f => si_sm n f + f n
theorem si_sm_s (n : Nat) (f : Nat → Nat) : si_sm (n + 1) f = si_sm n f + f n := rfl
theorem si_sm_congr {n : Nat} {f g : Nat → Nat} (h : ∀ i, i < n → f i = g i) : si_sm n f = si_sm n g := by
  induction n with
  | zero => rfl
  | succ n ih => rw [si_sm_s, si_sm_s, ih (fun i hi => h i (by omega)), h n (by omega)]
theorem si_sm_add (n : Nat) (f g : Nat → Nat) : si_sm n (fun i => f i + g i) = si_sm n f + si_sm n g := by
  induction n with
  | zero => rfl
  | succ n ih => rw [si_sm_s, si_sm_s, si_sm_s, ih]; omega
theorem si_sm_z (n : Nat) : si_sm n (fun _ => 0) = 0 := by
  induction n with
  | zero => rfl
  | succ n ih => rw [si_sm_s, ih]
theorem si_sm_swap (n k : Nat) (f : Nat → Nat → Nat) : si_sm n (fun i => si_sm k (fun j => f i j)) = si_sm k (fun j => si_sm n (fun i => f i j)) := by
  induction n with
  | zero => exact (si_sm_z k).symm
  | succ n ih =>
    rw [si_sm_s, ih, ← si_sm_add]
    rfl
theorem si_sm_1 {n a w : Nat} (h : a < n) : si_sm n (fun j => if a = j then w else 0) = w := by
  induction n with
  | zero => omega
  | succ n ih =>
    rw [si_sm_s]
    by_cases e : a = n
    · subst e
      rw [if_pos rfl, si_sm_congr (g := fun _ => 0) (fun i hi => if_neg (by omega)), si_sm_z]; omega
    · rw [if_neg e, ih (by omega), Nat.add_zero]
theorem si_sm_w (n w : Nat) (Q : Nat → Bool) : si_sm n (fun i => if Q i = true then w else 0) = w * si_cn n Q := by
  induction n with
  | zero => rfl
  | succ n ih =>
    rw [si_sm_s, si_cn_s, ih]
    split
    · rw [Nat.mul_add, Nat.mul_one]
    · rw [Nat.add_zero, Nat.add_zero]
theorem si_cn_sm (n : Nat) (P : Nat → Bool) : si_cn n P = si_sm n (fun i => if P i = true then 1 else 0) := by
  rw [si_sm_w, Nat.one_mul]
theorem si_sm_le {n : Nat} {f : Nat → Nat} (h : ∀ j, j < n → f j ≤ 1) : si_sm n f ≤ n := by
  induction n with
  | zero => exact Nat.le_refl 0
  | succ n ih =>
    have h1 := ih (fun i hi => h i (by omega))
    have h2 := h n (by omega)
    rw [si_sm_s]; omega
theorem si_sm_full {n : Nat} {f : Nat → Nat} (h : ∀ j, j < n → f j ≤ 1) (he : si_sm n f = n) : ∀ j, j < n → f j = 1 := by
  induction n with
  | zero => intro j hj; omega
  | succ n ih =>
    have h0 := si_sm_le (n := n) (fun i hi => h i (by omega))
    have h2 := h n (by omega)
    rw [si_sm_s] at he
    intro j hj
    by_cases e : j = n
    · subst e; omega
    · exact ih (fun i hi => h i (by omega)) (by omega) j (by omega)
/-- f sends the numbers below n to such, and no two to one -/
def si_bij (n : Nat) (f : Nat → Nat) : Prop := (∀ i, i < n → f i < n) ∧ ∀ i j, i < n → j < n → f i = f j → i = j
theorem si_hit {n : Nat} {f : Nat → Nat} (h : si_bij n f) : ∀ j, j < n → si_cn n (fun i => f i == j) = 1 := by
  refine si_sm_full (f := fun j => si_cn n (fun i => f i == j)) (fun j _ => si_cn_1 (fun a b ha hb h1 h2 => h.2 a b ha hb (by simp at h1 h2; omega))) ?_
  rw [si_sm_congr (g := fun j => si_sm n (fun i => if f i = j then 1 else 0)) (fun j _ => by
    rw [si_cn_sm]
    exact si_sm_congr (fun i _ => by by_cases e : f i = j <;> simp [e])), ← si_sm_swap]
  rw [si_sm_congr (g := fun _ => 1) (fun i hi => si_sm_1 (h.1 i hi))]
  have := si_cn_sm n (fun _ => true)
  rw [si_cn_all] at this
  simpa using this.symm
theorem si_onto {n : Nat} {f : Nat → Nat} (h : si_bij n f) {j : Nat} (hj : j < n) : ∃ i, i < n ∧ f i = j := by
  have h1 := si_hit h j hj
  apply Classical.byContradiction
  intro hn
  rw [si_cn_0 (fun i hi => by
    cases e : (f i == j) with
    | false => rfl
    | true => exact absurd ⟨i, hi, by simpa using e⟩ hn)] at h1
  omega
theorem si_cn_bij {n : Nat} {f : Nat → Nat} (h : si_bij n f) (P : Nat → Bool) : si_cn n (fun i => P (f i)) = si_cn n P := by
  rw [si_cn_sm]
  rw [si_sm_congr (g := fun i => si_sm n (fun j => if f i = j then (if P j = true then 1 else 0) else 0)) (fun i hi => by
    have h1 := si_sm_1 (n := n) (a := f i) (w := if P (f i) = true then 1 else 0) (h.1 i hi)
    rw [← h1]
    exact si_sm_congr (fun j _ => by by_cases e : f i = j <;> simp [e]))]
  rw [si_sm_swap, si_cn_sm n P]
  refine si_sm_congr (fun j hj => ?_)
  have h2 := si_sm_w n (if P j = true then 1 else 0) (fun i => f i == j)
  rw [si_hit h j hj, Nat.mul_one] at h2
  refine Eq.trans (si_sm_congr (fun i _ => ?_)) h2
  by_cases e : f i = j
  · exact (if_pos e).trans (if_pos (beq_iff_eq.mpr e)).symm
  · exact (if_neg e).trans (if_neg (fun q => e (beq_iff_eq.mp q))).symm
/-- the greatest i < n that has P (0 if none has) -/
def si_fd : Nat → (Nat → Bool) → Nat
  | 0, _ => 0
  | n + 1, P => if P n = true then n else si_fd n P
theorem si_fd_ok {n : Nat} {P : Nat → Bool} {i : Nat} (hi : i < n) (h : P i = true) : si_fd n P < n ∧ P (si_fd n P) = true := by
  induction n with
  | zero => omega
  | succ n ih =>
    show (if P n = true then n else si_fd n P) < n + 1 ∧ P (if P n = true then n else si_fd n P) = true
    by_cases hp : P n = true
    · rw [if_pos hp]; exact ⟨by omega, hp⟩
    · rw [if_neg hp]
      have hne : i ≠ n := fun e => hp (e ▸ h)
      have := ih (by omega)
      exact ⟨by omega, this.2⟩
/-- the inverse of f -/
def si_iv (n : Nat) (f : Nat → Nat) (j : Nat) : Nat := si_fd n (fun i => f i == j)
theorem si_iv_ok {n : Nat} {f : Nat → Nat} (h : si_bij n f) {j : Nat} (hj : j < n) : si_iv n f j < n ∧ f (si_iv n f j) = j := by
  obtain ⟨i, hi, e⟩ := si_onto h hj
  have := si_fd_ok (P := fun i => f i == j) hi (by simp [e])
  exact ⟨this.1, beq_iff_eq.mp this.2⟩
theorem si_iv_f {n : Nat} {f : Nat → Nat} (h : si_bij n f) {i : Nat} (hi : i < n) : si_iv n f (f i) = i := by
  have := si_iv_ok h (h.1 i hi)
  exact h.2 _ _ this.1 hi this.2
/-- the order of texts: the shorter is the smaller where the longer goes on -/
def si_sl : List Nat → List Nat → Bool
  | [], [] => false
  | [], _ :: _ => true
  | _ :: _, [] => false
  | a :: as, b :: bs => decide (a < b) || (a == b && si_sl as bs)
theorem si_sl_rf (a : List Nat) : si_sl a a = false := by
  induction a with
  | nil => rfl
  | cons x xs ih => simp [si_sl, ih]
theorem si_sl_nil (a : List Nat) : si_sl a [] = false := by cases a <;> rfl
theorem si_sl_tr {a b c : List Nat} (h1 : si_sl a b = true) (h2 : si_sl b c = true) : si_sl a c = true := by
  induction a generalizing b c with
  | nil =>
    cases b with
    | nil => simp [si_sl] at h1
    | cons y ys => cases c with
      | nil => simp [si_sl] at h2
      | cons z zs => rfl
  | cons x xs ih =>
    cases b with
    | nil => simp [si_sl] at h1
    | cons y ys => cases c with
      | nil => simp [si_sl] at h2
      | cons z zs =>
        simp only [si_sl, Bool.or_eq_true, Bool.and_eq_true, decide_eq_true_eq, beq_iff_eq] at h1 h2 ⊢
        rcases h1 with h1 | ⟨h1, h1'⟩
        · rcases h2 with h2 | ⟨h2, h2'⟩
          · left; omega
          · left; omega
        · rcases h2 with h2 | ⟨h2, h2'⟩
          · left; omega
          · right; exact ⟨by omega, ih h1' h2'⟩
theorem si_sl_tot {a b : List Nat} (h : a ≠ b) : si_sl a b = true ∨ si_sl b a = true := by
  induction a generalizing b with
  | nil => cases b with
    | nil => exact absurd rfl h
    | cons y ys => exact Or.inl rfl
  | cons x xs ih => cases b with
    | nil => exact Or.inr rfl
    | cons y ys =>
      simp only [si_sl, Bool.or_eq_true, Bool.and_eq_true, decide_eq_true_eq, beq_iff_eq]
      rcases Nat.lt_trichotomy x y with e | e | e
      · exact Or.inl (Or.inl e)
      · subst e
        have hne : xs ≠ ys := fun e => h (by rw [e])
        rcases ih hne with q | q
        · exact Or.inl (Or.inr ⟨rfl, q⟩)
        · exact Or.inr (Or.inr ⟨rfl, q⟩)
      · exact Or.inr (Or.inl e)
theorem si_sl_as {a b : List Nat} (h : si_sl a b = true) : si_sl b a = false := by
  cases e : si_sl b a with
  | false => rfl
  | true => have := si_sl_tr h e
            rw [si_sl_rf] at this; cases this
/-- the code at place p (0, the END, behind the last) -/
def si_g (t : List Nat) (p : Nat) : Nat := t.getD p 0
theorem si_g_in {t : List Nat} {p : Nat} (h : p < t.length) : si_g t p = t[p] := by simp [si_g, h]
theorem si_g_out {t : List Nat} {p : Nat} (h : t.length ≤ p) : si_g t p = 0 := by simp [si_g, h]
theorem si_drop {t : List Nat} {p : Nat} (h : p < t.length) : t.drop p = si_g t p :: t.drop (p + 1) := by
  rw [List.drop_eq_getElem_cons h, si_g_in h]
theorem si_dropn {t : List Nat} {p : Nat} (h : t.length ≤ p) : t.drop p = [] := List.drop_eq_nil_of_le h
/-- suffix q is smaller than suffix p -/
def si_sf (t : List Nat) (q p : Nat) : Bool := si_sl (t.drop q) (t.drop p)
theorem si_sf_s {t : List Nat} {q p : Nat} (hq : q < t.length) (hp : p < t.length) : si_sf t q p = (decide (si_g t q < si_g t p) || (si_g t q == si_g t p && si_sf t (q + 1) (p + 1))) := by
  unfold si_sf
  rw [si_drop hq, si_drop hp]
  rfl
theorem si_sf_e {t : List Nat} {p : Nat} (hp : p < t.length) : si_sf t t.length p = true := by
  unfold si_sf
  rw [si_dropn (Nat.le_refl _), si_drop hp]
  rfl
theorem si_sf_n {t : List Nat} {q : Nat} : si_sf t q t.length = false := by
  unfold si_sf
  rw [si_dropn (Nat.le_refl _)]
  exact si_sl_nil _
theorem si_sf_tot {t : List Nat} {q p : Nat} (hq : q ≤ t.length) (hp : p ≤ t.length) (h : q ≠ p) : si_sf t q p = true ∨ si_sf t p q = true :=
  si_sl_tot (fun e => h (by
    have := congrArg List.length e
    rw [List.length_drop, List.length_drop] at this
    omega))
/-- the row of place p -/
def si_rk (t : List Nat) (p : Nat) : Nat := si_cn (t.length + 1) (fun q => si_sf t q p)
theorem si_rk_lt {t : List Nat} {q p : Nat} (hq : q ≤ t.length) (h : si_sf t q p = true) : si_rk t q < si_rk t p :=
  si_cn_lt (j := q) (fun i _ hi => si_sl_tr hi h) (by omega) (si_sl_rf _) h
theorem si_rk_iff {t : List Nat} {q p : Nat} (hq : q ≤ t.length) (hp : p ≤ t.length) : si_rk t q < si_rk t p ↔ si_sf t q p = true := by
  constructor
  · intro h
    by_cases e : q = p
    · subst e; omega
    · rcases si_sf_tot hq hp e with h1 | h1
      · exact h1
      · have := si_rk_lt hp h1; omega
  · exact si_rk_lt hq
theorem si_rk_inj {t : List Nat} {q p : Nat} (hq : q ≤ t.length) (hp : p ≤ t.length) (h : si_rk t q = si_rk t p) : q = p := by
  apply Classical.byContradiction
  intro e
  rcases si_sf_tot hq hp e with h1 | h1
  · have := si_rk_lt hq h1; omega
  · have := si_rk_lt hp h1; omega
theorem si_rk_le {t : List Nat} {p : Nat} (hp : p ≤ t.length) : si_rk t p < t.length + 1 := by
  have h := si_cn_lt (n := t.length + 1) (j := p) (P := fun q => si_sf t q p) (Q := fun _ => true) (fun _ _ _ => rfl) (by omega) (si_sl_rf _) rfl
  rw [si_cn_all] at h
  exact h
theorem si_rk_n (t : List Nat) : si_rk t t.length = 0 := si_cn_0 (fun _ _ => si_sf_n)
theorem si_rk_bij (t : List Nat) : si_bij (t.length + 1) (si_rk t) :=
  ⟨fun _ hi => si_rk_le (by omega), fun _ _ hi hj h => si_rk_inj (by omega) (by omega) h⟩
/-- the place of row r -/
def si_pl (t : List Nat) (r : Nat) : Nat := si_iv (t.length + 1) (si_rk t) r
theorem si_pl_ok {t : List Nat} {r : Nat} (h : r ≤ t.length) : si_pl t r ≤ t.length ∧ si_rk t (si_pl t r) = r := by
  have := si_iv_ok (si_rk_bij t) (show r < t.length + 1 by omega)
  exact ⟨Nat.le_of_lt_succ this.1, this.2⟩
theorem si_pl_rk {t : List Nat} {p : Nat} (h : p ≤ t.length) : si_pl t (si_rk t p) = p := si_iv_f (si_rk_bij t) (by omega)
/-- the code that stands before place p (0: the END) -/
def si_bf (t : List Nat) (p : Nat) : Nat := if p = 0 then 0 else si_g t (p - 1)
/-- the BEFORE of row r -/
def si_B (t : List Nat) (r : Nat) : Nat := si_bf t (si_pl t r)
theorem si_B_rk {t : List Nat} {p : Nat} (h : p ≤ t.length) : si_B t (si_rk t p) = si_bf t p := by
  unfold si_B; rw [si_pl_rk h]
/-- the order of rows by their codes -/
def si_lo (c : Nat → Nat) (i r : Nat) : Bool := decide (c i < c r) || (c i == c r && decide (i < r))
def si_lf (c : Nat → Nat) (n : Nat) (r : Nat) : Nat := si_cn n (fun i => si_lo c i r)
theorem si_lo_rf (c : Nat → Nat) (i : Nat) : si_lo c i i = false := by simp [si_lo]
theorem si_lo_tr {c : Nat → Nat} {i j k : Nat} (h1 : si_lo c i j = true) (h2 : si_lo c j k = true) : si_lo c i k = true := by
  simp only [si_lo, Bool.or_eq_true, Bool.and_eq_true, decide_eq_true_eq, beq_iff_eq] at h1 h2 ⊢
  omega
theorem si_lo_tot {c : Nat → Nat} {i j : Nat} (h : i ≠ j) : si_lo c i j = true ∨ si_lo c j i = true := by
  simp only [si_lo, Bool.or_eq_true, Bool.and_eq_true, decide_eq_true_eq, beq_iff_eq]
  omega
theorem si_lf_lt {c : Nat → Nat} {n i j : Nat} (hi : i < n) (h : si_lo c i j = true) : si_lf c n i < si_lf c n j :=
  si_cn_lt (j := i) (fun _ _ hk => si_lo_tr hk h) hi (si_lo_rf c i) h
theorem si_lf_bij (c : Nat → Nat) (n : Nat) : si_bij n (si_lf c n) := by
  refine ⟨fun i hi => ?_, fun i j hi hj h => ?_⟩
  · have h := si_cn_lt (n := n) (j := i) (P := fun q => si_lo c q i) (Q := fun _ => true) (fun _ _ _ => rfl) hi (si_lo_rf c i) rfl
    rw [si_cn_all] at h
    exact h
  · apply Classical.byContradiction
    intro e
    rcases si_lo_tot (c := c) e with h1 | h1
    · have := si_lf_lt hi h1; omega
    · have := si_lf_lt hj h1; omega
/-- a text that may be written: at most 60 characters, each from 32 to 126 -/
def si_ok (t : List Nat) : Prop := t.length ≤ 60 ∧ ∀ c ∈ t, 32 ≤ c ∧ c ≤ 126
theorem si_ok_at {t : List Nat} (h : si_ok t) {p : Nat} (hp : p < t.length) : 32 ≤ si_g t p ∧ si_g t p ≤ 126 := by
  rw [si_g_in hp]
  exact h.2 _ (List.getElem_mem hp)
theorem si_bf_le {t : List Nat} (h : si_ok t) (p : Nat) : si_bf t p ≤ 126 := by
  unfold si_bf
  by_cases e : p = 0
  · rw [if_pos e]; omega
  · rw [if_neg e]
    by_cases hp : p - 1 < t.length
    · exact (si_ok_at h hp).2
    · rw [si_g_out (by omega)]; omega
theorem si_B_le {t : List Nat} (h : si_ok t) (r : Nat) : si_B t r ≤ 126 := si_bf_le h _
/-- the step of the rows: from the row of p to the row of the place before it -/
theorem si_lf_rk {t : List Nat} (h : si_ok t) {p : Nat} (h1 : 1 ≤ p) (h2 : p ≤ t.length) : si_lf (si_B t) (t.length + 1) (si_rk t p) = si_rk t (p - 1) := by
  unfold si_lf
  rw [← si_cn_bij (si_rk_bij t)]
  have hg : si_bij (t.length + 1) (fun q => if q = 0 then t.length else q - 1) := by
    refine ⟨fun i hi => ?_, fun i j hi hj e => ?_⟩
    · show (if i = 0 then t.length else i - 1) < t.length + 1
      split <;> omega
    · have e : (if i = 0 then t.length else i - 1) = (if j = 0 then t.length else j - 1) := e
      split at e <;> split at e <;> omega
  show _ = si_cn (t.length + 1) (fun q => si_sf t q (p - 1))
  rw [← si_cn_bij hg (fun q => si_sf t q (p - 1))]
  refine si_cn_congr (fun q hq => ?_)
  unfold si_lo
  rw [si_B_rk (show q ≤ t.length by omega), si_B_rk h2]
  have hp := si_ok_at h (show p - 1 < t.length by omega)
  have hbp : si_bf t p = si_g t (p - 1) := by unfold si_bf; rw [if_neg (by omega)]
  rw [hbp]
  by_cases e : q = 0
  · subst e
    rw [if_pos rfl, si_sf_e (by omega)]
    have : si_bf t 0 = 0 := rfl
    rw [this]
    have : (0 : Nat) < si_g t (p - 1) := by omega
    simp [this]
  · rw [if_neg e]
    have hbq : si_bf t q = si_g t (q - 1) := by unfold si_bf; rw [if_neg e]
    rw [hbq, si_sf_s (by omega) (by omega)]
    have e1 : q - 1 + 1 = q := by omega
    have e2 : p - 1 + 1 = p := by omega
    rw [e1, e2]
    have h3 := si_rk_iff (t := t) (q := q) (p := p) (by omega) h2
    have h4 : decide (si_rk t q < si_rk t p) = si_sf t q p := by
      cases hs : si_sf t q p with
      | true => simp [h3.mpr hs]
      | false => simp; have : ¬ si_rk t q < si_rk t p := fun q1 => by rw [h3.mp q1] at hs; cases hs
                 omega
    rw [h4]
theorem si_lf_0 {t : List Nat} (h : si_ok t) : si_lf (si_B t) (t.length + 1) (si_rk t 0) = 0 := by
  unfold si_lf
  rw [← si_cn_bij (si_rk_bij t)]
  refine si_cn_0 (fun q hq => ?_)
  unfold si_lo
  rw [si_B_rk (show q ≤ t.length by omega), si_B_rk (Nat.zero_le _)]
  have : si_bf t 0 = 0 := rfl
  rw [this]
  by_cases e : q = 0
  · subst e; simp
  · have hbq : si_bf t q = si_g t (q - 1) := by unfold si_bf; rw [if_neg e]
    have := si_ok_at h (show q - 1 < t.length by omega)
    rw [hbq]
    have h0 : ¬ si_g t (q - 1) = 0 := by omega
    simp [h0]
