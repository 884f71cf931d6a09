/-! Pure rows: rows among the later suffixes; what the questions answer; the number of bits of a word. -/
theorem si_cn_from {n lo : Nat} (F : Nat → Bool) (h : lo < n) : si_cn n (fun i => decide (lo ≤ i) && F i) = si_cn n (fun i => decide (lo + 1 ≤ i) && F i) + (if F lo = true then 1 else 0) := by
  induction n with
  | zero => omega
  | succ n ih =>
    rw [si_cn_s, si_cn_s]
    by_cases e : lo = n
    · subst e
      have h1 : si_cn lo (fun i => decide (lo ≤ i) && F i) = 0 := si_cn_0 (fun i hi => by simp; omega)
      have h2 : si_cn lo (fun i => decide (lo + 1 ≤ i) && F i) = 0 := si_cn_0 (fun i hi => by simp; omega)
      rw [h1, h2]
      have h3 : decide (lo ≤ lo) = true := by simp
      have h4 : decide (lo + 1 ≤ lo) = false := by simp
      rw [h3, h4, Bool.true_and, Bool.false_and, if_neg (by decide : ¬ false = true)]
    · rw [ih (by omega)]
      have h1 : decide (lo ≤ n) = true := by simp; omega
      have h2 : decide (lo + 1 ≤ n) = true := by simp; omega
      rw [h1, h2]
      omega
/-- the row of p among the suffixes from lo on -/
def si_rr (t : List Nat) (lo p : Nat) : Nat := si_cn (t.length + 1) (fun q => decide (lo ≤ q) && si_sf t q p)
theorem si_rr_0 (t : List Nat) (p : Nat) : si_rr t 0 p = si_rk t p := si_cn_congr (fun q _ => by simp)
theorem si_rr_lt {t : List Nat} {lo q p : Nat} (h1 : lo ≤ q) (hq : q ≤ t.length) (h : si_sf t q p = true) : si_rr t lo q < si_rr t lo p := by
  refine si_cn_lt (j := q) (fun i _ hi => ?_) (by omega) ?_ ?_
  · rw [Bool.and_eq_true] at hi ⊢
    exact ⟨hi.1, si_sl_tr hi.2 h⟩
  · have : si_sf t q q = false := si_sl_rf _
    rw [this, Bool.and_false]
  · rw [h]; simp [h1]
theorem si_rr_iff {t : List Nat} {lo q p : Nat} (h1 : lo ≤ q) (h2 : lo ≤ p) (hq : q ≤ t.length) (hp : p ≤ t.length) : si_rr t lo q < si_rr t lo p ↔ si_sf t q p = true := by
  constructor
  · intro h
    by_cases e : q = p
    · subst e; omega
    · rcases si_sf_tot hq hp e with h3 | h3
      · exact h3
      · have := si_rr_lt h2 hp h3; omega
  · exact si_rr_lt h1 hq
theorem si_rr_le (t : List Nat) (lo p : Nat) (hp : p ≤ t.length) : si_rr t lo p ≤ t.length := by
  have h : si_rr t lo p ≤ si_rk t p := si_cn_mono (fun i _ hi => by rw [Bool.and_eq_true] at hi; exact hi.2)
  have := si_rk_le hp
  omega
theorem si_rr_self {t : List Nat} {p : Nat} (hp : p ≤ t.length) : si_rr t p p = si_rr t (p + 1) p := by
  unfold si_rr
  rw [si_cn_from (fun q => si_sf t q p) (by omega)]
  have : si_sf t p p = false := si_sl_rf _
  simp [this]
theorem si_rr_in {t : List Nat} {p q : Nat} (hp : p < q) (hq : q ≤ t.length) : si_rr t p q = si_rr t (p + 1) q + (if si_rr t (p + 1) p ≤ si_rr t (p + 1) q then 1 else 0) := by
  have h0 : si_rr t p q = si_rr t (p + 1) q + (if si_sf t p q = true then 1 else 0) := si_cn_from (fun i => si_sf t i q) (by omega)
  rw [h0]
  by_cases e : si_sf t p q = true
  · have : si_rr t (p + 1) p ≤ si_rr t (p + 1) q := si_cn_mono (fun i _ hi => by
      rw [Bool.and_eq_true] at hi ⊢
      exact ⟨hi.1, si_sl_tr hi.2 e⟩)
    rw [if_pos e, if_pos this]
  · have h1 : si_sf t q p = true := by
      rcases si_sf_tot (t := t) (q := q) (p := p) hq (by omega) (by omega) with h | h
      · exact h
      · exact absurd h e
    have h2 : si_rr t (p + 1) q < si_rr t (p + 1) p := si_rr_lt (by omega) hq h1
    rw [if_neg e, if_neg (by omega)]
/-- one and only one place for every row -/
theorem si_pl_of {t : List Nat} {f : Nat → Int32} (h : ∀ p, p < t.length + 1 → f (si_rk t p) = nI p) : ∀ r, r < t.length + 1 → f r = nI (si_pl t r) := by
  intro r hr
  have h1 := si_pl_ok (t := t) (r := r) (by omega)
  have h2 := h (si_pl t r) (by omega)
  rw [h1.2] at h2
  exact h2
/-- the pattern stands in the text at p -/
def si_oc (t a : List Nat) (p : Nat) : Bool := decide (p + a.length ≤ t.length) && (List.range a.length).all (fun i => si_g t (p + i) == si_g a i)
theorem si_oc_iff {t a : List Nat} {p : Nat} : si_oc t a p = true ↔ p + a.length ≤ t.length ∧ ∀ i, i < a.length → si_g t (p + i) = si_g a i := by
  unfold si_oc
  simp [List.all_eq_true]
/-- a code of the pattern is no END: so it is enough to look at the codes -/
theorem si_oc_iff2 {t a : List Nat} {p : Nat} (ha : ∀ c ∈ a, 32 ≤ c ∧ c ≤ 126) (hp : p ≤ t.length) : si_oc t a p = true ↔ ∀ i, i < a.length → si_g t (p + i) = si_g a i := by
  rw [si_oc_iff]
  constructor
  · exact fun h => h.2
  · intro h
    refine ⟨?_, h⟩
    cases hl : a.length with
    | zero => omega
    | succ k =>
      have h1 := h k (by omega)
      have h2 : si_g a k = a[k] := si_g_in (by omega)
      have h3 := ha _ (List.getElem_mem (show k < a.length by omega))
      rw [h2] at h1
      apply Classical.byContradiction
      intro hn
      rw [si_g_out (by omega)] at h1
      omega
/-- the answer of firstRow where a text is loaded -/
def si_fr (t a : List Nat) (v : Int32) : Prop := (v = -1 ∧ ∀ p, p ≤ t.length → si_oc t a p = false) ∨ ∃ r, r ≤ t.length ∧ v = nI r ∧ si_oc t a (si_pl t r) = true ∧ ∀ q, q < r → si_oc t a (si_pl t q) = false
/-- the answer of locate where a text is loaded, and k is no negative number -/
def si_lc (t a : List Nat) (k : Nat) (v : Int32) : Prop := (v = -1 ∧ si_cn (t.length + 1) (si_oc t a) ≤ k) ∨ ∃ p, p ≤ t.length ∧ v = nI p ∧ si_oc t a p = true ∧ si_cn p (si_oc t a) = k
theorem si_fr_one {t a : List Nat} {v w : Int32} (h1 : si_fr t a v) (h2 : si_fr t a w) : v = w := by
  have key : ∀ {r}, r ≤ t.length → si_oc t a (si_pl t r) = true → ¬ ∀ p, p ≤ t.length → si_oc t a p = false := by
    intro r hr h hn
    rw [hn _ (si_pl_ok hr).1] at h
    cases h
  rcases h1 with ⟨e1, n1⟩ | ⟨r1, l1, e1, o1, m1⟩ <;> rcases h2 with ⟨e2, n2⟩ | ⟨r2, l2, e2, o2, m2⟩
  · rw [e1, e2]
  · exact absurd n1 (key l2 o2)
  · exact absurd n2 (key l1 o1)
  · rcases Nat.lt_trichotomy r1 r2 with q | q | q
    · rw [m2 r1 q] at o1; cases o1
    · rw [e1, e2, q]
    · rw [m1 r2 q] at o2; cases o2
theorem si_lc_one {t a : List Nat} {k : Nat} {v w : Int32} (h1 : si_lc t a k v) (h2 : si_lc t a k w) : v = w := by
  have key : ∀ {p}, p ≤ t.length → si_oc t a p = true → si_cn p (si_oc t a) = k → ¬ si_cn (t.length + 1) (si_oc t a) ≤ k := by
    intro p hp ho hc hn
    have := si_cn_ups (b := t.length + 1) (show p < t.length + 1 by omega) ho
    omega
  rcases h1 with ⟨e1, n1⟩ | ⟨p1, l1, e1, o1, m1⟩ <;> rcases h2 with ⟨e2, n2⟩ | ⟨p2, l2, e2, o2, m2⟩
  · rw [e1, e2]
  · exact absurd n1 (key l2 o2 m2)
  · exact absurd n2 (key l1 o1 m1)
  · rcases Nat.lt_trichotomy p1 p2 with q | q | q
    · have := si_cn_ups q o1; omega
    · rw [e1, e2, q]
    · have := si_cn_ups q o2; omega
/-- the character c stands before a place where the pattern stands -/
def si_fo (t a : List Nat) (c : Nat) : Bool := (List.range t.length).any (fun p => si_g t p == c && si_oc t a (p + 1))
def si_va (t a : List Nat) : Nat := si_cn 127 (fun c => decide (32 ≤ c) && si_fo t a c)
-- bits of a word, byte by byte
def si_tb (x i : Nat) : Bool := x.testBit i
theorem si_cn_app (k n : Nat) (P : Nat → Bool) : si_cn (k + n) P = si_cn k P + si_cn n (fun i => P (k + i)) := by
  induction n with
  | zero => rfl
  | succ n ih => rw [show k + (n + 1) = (k + n) + 1 by omega, si_cn_s, si_cn_s, ih]; omega
theorem si_ldB {u v w z : Nat} (hv : v < 256) (hz : z < 256) : (256 * u + v) &&& (256 * w + z) = 256 * (u &&& w) + (v &&& z) := by
  have e : (256 : Nat) = 2 ^ 8 := by decide
  have hvz : v &&& z < 2 ^ 8 := Nat.and_lt_two_pow _ (by omega)
  apply Nat.eq_of_testBit_eq
  intro i
  rw [Nat.testBit_and, e, Nat.testBit_two_pow_mul_add _ (by omega), Nat.testBit_two_pow_mul_add _ (by omega), Nat.testBit_two_pow_mul_add _ hvz]
  by_cases h : i < 8
  · rw [if_pos h, if_pos h, if_pos h, Nat.testBit_and]
  · rw [if_neg h, if_neg h, if_neg h, Nat.testBit_and]
def si_m (b : Nat) : Nat → Nat
  | 0 => 0
  | k + 1 => 256 * si_m b k + b
/-- the steps of the count of bits, on k bytes -/
def si_s1 (k x : Nat) : Nat := x - (x / 2 &&& si_m 85 k)
def si_s2 (k x : Nat) : Nat := (si_s1 k x &&& si_m 51 k) + (si_s1 k x / 4 &&& si_m 51 k)
def si_s3 (k x : Nat) : Nat := (si_s2 k x + si_s2 k x / 16) &&& si_m 15 k
def si_p1 (b : Nat) : Nat := b - (b / 2 &&& 85)
def si_p2 (b : Nat) : Nat := (si_p1 b &&& 51) + (si_p1 b / 4 &&& 51)
def si_p3 (b : Nat) : Nat := (si_p2 b + si_p2 b / 16) % 16
theorem si_d1 : ∀ b, b < 256 → (b / 2 &&& 85) ≤ b ∧ ((128 + b / 2) &&& 85) = (b / 2 &&& 85) ∧ si_p1 b < 256 := by decide +kernel
theorem si_d2 : ∀ q, q < 256 → (q / 4 &&& 51) < 52 ∧ (q &&& 51) < 52 ∧ ((64 + q / 4) &&& 51) = (q / 4 &&& 51) ∧ ((128 + q / 4) &&& 51) = (q / 4 &&& 51) ∧ ((192 + q / 4) &&& 51) = (q / 4 &&& 51) := by decide +kernel
theorem si_d3 : ∀ q, q < 256 → (q &&& 15) = q % 16 := by decide +kernel
theorem si_d4 : ∀ b, b < 256 → si_cn 8 (si_tb b) = si_p3 b ∧ si_p3 b ≤ 8 := by decide +kernel
theorem si_s1_s {k y b : Nat} (hb : b < 256) : si_s1 (k + 1) (256 * y + b) = 256 * si_s1 k y + si_p1 b := by
  obtain ⟨h1, h2, h3⟩ := si_d1 b hb
  have e : (256 * y + b) / 2 = 256 * (y / 2) + (128 * (y % 2) + b / 2) := by omega
  have e2 : ((256 * y + b) / 2 &&& si_m 85 (k + 1)) = 256 * (y / 2 &&& si_m 85 k) + (b / 2 &&& 85) := by
    rw [e]
    show (256 * (y / 2) + (128 * (y % 2) + b / 2)) &&& (256 * si_m 85 k + 85) = _
    rw [si_ldB (by omega) (by omega)]
    congr 1
    rcases Nat.mod_two_eq_zero_or_one y with q | q
    · rw [q]; simp
    · rw [q]; exact h2
  unfold si_s1
  rw [e2]
  have h4 : (y / 2 &&& si_m 85 k) ≤ y := Nat.le_trans Nat.and_le_left (Nat.div_le_self _ _)
  unfold si_p1
  omega
theorem si_s2_s {k y b : Nat} (hb : b < 256) : si_s2 (k + 1) (256 * y + b) = 256 * si_s2 k y + si_p2 b := by
  obtain ⟨-, -, h3⟩ := si_d1 b hb
  obtain ⟨d1, d2, d3, d4, d5⟩ := si_d2 (si_p1 b) h3
  unfold si_s2
  rw [si_s1_s hb]
  have e : (256 * si_s1 k y + si_p1 b) / 4 = 256 * (si_s1 k y / 4) + (64 * (si_s1 k y % 4) + si_p1 b / 4) := by omega
  have e2 : ((256 * si_s1 k y + si_p1 b) / 4 &&& si_m 51 (k + 1)) = 256 * (si_s1 k y / 4 &&& si_m 51 k) + (si_p1 b / 4 &&& 51) := by
    rw [e]
    show (256 * (si_s1 k y / 4) + (64 * (si_s1 k y % 4) + si_p1 b / 4)) &&& (256 * si_m 51 k + 51) = _
    rw [si_ldB (by omega) (by omega)]
    congr 1
    rcases (show si_s1 k y % 4 = 0 ∨ si_s1 k y % 4 = 1 ∨ si_s1 k y % 4 = 2 ∨ si_s1 k y % 4 = 3 by omega) with q | q | q | q
    · rw [q]; simp
    · rw [q]; exact d3
    · rw [q]; exact d4
    · rw [q]; exact d5
  have e3 : ((256 * si_s1 k y + si_p1 b) &&& si_m 51 (k + 1)) = 256 * (si_s1 k y &&& si_m 51 k) + (si_p1 b &&& 51) := by
    show (256 * si_s1 k y + si_p1 b) &&& (256 * si_m 51 k + 51) = _
    exact si_ldB h3 (by omega)
  rw [e2, e3]
  unfold si_p2
  omega
theorem si_low51 (k a : Nat) : (a &&& si_m 51 k) % 16 ≤ 3 := by
  cases k with
  | zero => simp [si_m]
  | succ k =>
    have h1 : a = 256 * (a / 256) + a % 256 := by omega
    have h2 : (a &&& si_m 51 (k + 1)) = 256 * (a / 256 &&& si_m 51 k) + (a % 256 &&& 51) := by
      show (a &&& (256 * si_m 51 k + 51)) = _
      rw (occs := .pos [1]) [h1]
      exact si_ldB (by omega) (by omega)
    have h3 : ∀ q, q < 256 → (q &&& 51) % 16 ≤ 3 := by decide +kernel
    have h4 := h3 (a % 256) (by omega)
    rw [h2]
    omega
theorem si_s3_s {k y b : Nat} (hb : b < 256) : si_s3 (k + 1) (256 * y + b) = 256 * si_s3 k y + si_p3 b := by
  have h1 : si_s2 k y % 16 ≤ 6 := by
    have a1 := si_low51 k (si_s1 k y)
    have a2 := si_low51 k (si_s1 k y / 4)
    unfold si_s2
    omega
  obtain ⟨-, -, h3⟩ := si_d1 b hb
  obtain ⟨d1, d2, -, -, -⟩ := si_d2 (si_p1 b) h3
  have h2 : si_p2 b < 104 := by unfold si_p2; omega
  unfold si_s3
  rw [si_s2_s hb]
  have e : 256 * si_s2 k y + si_p2 b + (256 * si_s2 k y + si_p2 b) / 16 = 256 * (si_s2 k y + si_s2 k y / 16) + (si_p2 b + si_p2 b / 16 + 16 * (si_s2 k y % 16)) := by omega
  rw [e]
  show (256 * (si_s2 k y + si_s2 k y / 16) + (si_p2 b + si_p2 b / 16 + 16 * (si_s2 k y % 16))) &&& (256 * si_m 15 k + 15) = _
  rw [si_ldB (by omega) (by omega), si_d3 _ (by omega)]
  unfold si_p3
  omega
theorem si_bytes_cn {k y b : Nat} (hb : b < 256) : si_cn (8 + k) (si_tb (256 * y + b)) = si_p3 b + si_cn k (si_tb y) := by
  have e : (256 : Nat) = 2 ^ 8 := by decide
  rw [si_cn_app]
  congr 1
  · rw [← (si_d4 b hb).1]
    refine si_cn_congr (fun i hi => ?_)
    unfold si_tb
    rw [e, Nat.testBit_two_pow_mul_add _ (by omega), if_pos hi]
  · refine si_cn_congr (fun i hi => ?_)
    unfold si_tb
    rw [e, Nat.testBit_two_pow_mul_add _ (by omega), if_neg (by omega), Nat.add_sub_cancel_left]
/-- the count of bits of eight bytes, as the machine's library does it -/
theorem si_pop {x s4 s5 s6 : Nat} (hx : x < 2 ^ 64) (h4 : s4 = si_s3 8 x + si_s3 8 x / 256) (h5 : s5 = s4 + s4 / 65536) (h6 : s6 = s5 + s5 / 4294967296) : s6 % 128 = si_cn 64 (si_tb x) := by
  obtain ⟨y7, b0, e0, k0, l0⟩ : ∃ y b, x = 256 * y + b ∧ b < 256 ∧ y < 2 ^ 56 := ⟨x / 256, x % 256, by omega, by omega, by omega⟩
  obtain ⟨y6, b1, e1, k1, l1⟩ : ∃ y b, y7 = 256 * y + b ∧ b < 256 ∧ y < 2 ^ 48 := ⟨y7 / 256, y7 % 256, by omega, by omega, by omega⟩
  obtain ⟨y5, b2, e2, k2, l2⟩ : ∃ y b, y6 = 256 * y + b ∧ b < 256 ∧ y < 2 ^ 40 := ⟨y6 / 256, y6 % 256, by omega, by omega, by omega⟩
  obtain ⟨y4, b3, e3, k3, l3⟩ : ∃ y b, y5 = 256 * y + b ∧ b < 256 ∧ y < 2 ^ 32 := ⟨y5 / 256, y5 % 256, by omega, by omega, by omega⟩
  obtain ⟨y3, b4, e4, k4, l4⟩ : ∃ y b, y4 = 256 * y + b ∧ b < 256 ∧ y < 2 ^ 24 := ⟨y4 / 256, y4 % 256, by omega, by omega, by omega⟩
  obtain ⟨y2, b5, e5, k5, l5⟩ : ∃ y b, y3 = 256 * y + b ∧ b < 256 ∧ y < 2 ^ 16 := ⟨y3 / 256, y3 % 256, by omega, by omega, by omega⟩
  obtain ⟨b7, b6, e6, k6, k7⟩ : ∃ y b, y2 = 256 * y + b ∧ b < 256 ∧ y < 256 := ⟨y2 / 256, y2 % 256, by omega, by omega, by omega⟩
  have z : ∀ b, b < 256 → si_s3 1 b = si_p3 b := fun b hb => by
    have := si_s3_s (k := 0) (y := 0) hb
    rw [show 256 * 0 + b = b by omega] at this
    have e9 : si_s3 1 b = 256 * si_s3 0 0 + si_p3 b := this
    have : si_s3 0 0 = 0 := rfl
    omega
  have zc : ∀ b, b < 256 → si_cn 8 (si_tb b) = si_p3 b := fun b hb => (si_d4 b hb).1
  have hs : si_s3 8 x = 256 * (256 * (256 * (256 * (256 * (256 * (256 * si_p3 b7 + si_p3 b6) + si_p3 b5) + si_p3 b4) + si_p3 b3) + si_p3 b2) + si_p3 b1) + si_p3 b0 := by
    rw [e0, si_s3_s k0, e1, si_s3_s k1, e2, si_s3_s k2, e3, si_s3_s k3, e4, si_s3_s k4, e5, si_s3_s k5, e6, si_s3_s k6, z b7 k7]
  have hc : si_cn 64 (si_tb x) = si_p3 b0 + (si_p3 b1 + (si_p3 b2 + (si_p3 b3 + (si_p3 b4 + (si_p3 b5 + (si_p3 b6 + si_p3 b7)))))) := by
    rw [e0, show (64 : Nat) = 8 + 56 by rfl, si_bytes_cn k0, e1, show (56 : Nat) = 8 + 48 by rfl, si_bytes_cn k1, e2, show (48 : Nat) = 8 + 40 by rfl, si_bytes_cn k2, e3, show (40 : Nat) = 8 + 32 by rfl, si_bytes_cn k3, e4, show (32 : Nat) = 8 + 24 by rfl, si_bytes_cn k4, e5, show (24 : Nat) = 8 + 16 by rfl, si_bytes_cn k5, e6, show (16 : Nat) = 8 + 8 by rfl, si_bytes_cn k6, zc b7 k7]
  have p0 := (si_d4 b0 k0).2
  have p1 := (si_d4 b1 k1).2
  have p2 := (si_d4 b2 k2).2
  have p3 := (si_d4 b3 k3).2
  have p4 := (si_d4 b4 k4).2
  have p5 := (si_d4 b5 k5).2
  have p6 := (si_d4 b6 k6).2
  have p7 := (si_d4 b7 k7).2
  rw [hc]
  rw [hs] at h4
  clear hs hc z zc e0 e1 e2 e3 e4 e5 e6
  generalize si_p3 b0 = q0 at *
  generalize si_p3 b1 = q1 at *
  generalize si_p3 b2 = q2 at *
  generalize si_p3 b3 = q3 at *
  generalize si_p3 b4 = q4 at *
  generalize si_p3 b5 = q5 at *
  generalize si_p3 b6 = q6 at *
  generalize si_p3 b7 = q7 at *
  have f4 : s4 = 256 * (256 * (256 * (256 * (256 * (256 * (256 * q7 + (q6 + q7)) + (q5 + q6)) + (q4 + q5)) + (q3 + q4)) + (q2 + q3)) + (q1 + q2)) + (q0 + q1) := by omega
  have f5 : s5 % 65536 = (s4 + s4 / 65536) % 65536 := by rw [h5]
  have g5 : s5 = 256 * (256 * (256 * (256 * (256 * (256 * (256 * q7 + (q6 + q7)) + (q5 + q6 + q7)) + (q4 + q5 + q6 + q7)) + (q3 + q4 + q5 + q6)) + (q2 + q3 + q4 + q5)) + (q1 + q2 + q3 + q4)) + (q0 + q1 + q2 + q3) := by omega
  have g6 : s5 / 4294967296 = 256 * (256 * (256 * q7 + (q6 + q7)) + (q5 + q6 + q7)) + (q4 + q5 + q6 + q7) := by omega
  omega
/-- a line holds the text t -/
def si_ln (t : List Nat) (f : Nat → Int32) : Prop := ∀ i, i < t.length → f i = nI (si_g t i)
/-- rows and places of the suffixes of t -/
def si_su (t : List Nat) (fr fp : Nat → Int32) : Prop := (∀ p, p < t.length + 1 → fr p = nI (si_rk t p)) ∧ ∀ r, r < t.length + 1 → fp r = nI (si_pl t r)
/-- codeAt: what stands at p -/
def si_ca (f : Nat → Int32) (sz : Nat) (p v : Int32) : Prop := (∃ k, k < sz ∧ p = nI k ∧ v = f k) ∨ ((p < 0 ∨ nI sz ≤ p) ∧ v = 0)
theorem si_ca_n {t : List Nat} {f : Nat → Int32} (h : si_ln t f) (hn : t.length < 2 ^ 31) {k : Nat} (hk : k < 2 ^ 31) : si_ca f t.length (nI k) (nI (si_g t k)) := by
  by_cases q : k < t.length
  · exact Or.inl ⟨k, q, rfl, (h k q).symm⟩
  · refine Or.inr ⟨Or.inr (nI_le (by omega) hk), ?_⟩
    rw [si_g_out (by omega)]
    rfl
