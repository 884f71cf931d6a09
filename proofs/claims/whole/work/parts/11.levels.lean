/-! Pure rows: the levels of an image, reading them again, the image. -/
theorem si_bij_comp {n : Nat} {f g : Nat → Nat} (hf : si_bij n f) (hg : si_bij n g) : si_bij n (fun i => g (f i)) :=
  ⟨fun i hi => hg.1 _ (hf.1 i hi), fun i j hi hj h => hf.2 i j hi hj (hg.2 _ _ (hf.1 i hi) (hf.1 j hj) h)⟩
/-- where place i goes: the zeros first, then the ones, each in their order -/
def si_ps (n : Nat) (b : Nat → Bool) (i : Nat) : Nat := if b i = true then si_cn n (fun k => !b k) + si_cn i b else si_cn i (fun k => !b k)
theorem si_ps_t {n : Nat} {b : Nat → Bool} {i : Nat} (h : b i = true) : si_ps n b i = si_cn n (fun k => !b k) + si_cn i b := if_pos h
theorem si_ps_f {n : Nat} {b : Nat → Bool} {i : Nat} (h : b i = false) : si_ps n b i = si_cn i (fun k => !b k) := if_neg (by rw [h]; decide)
theorem si_ps_bij (n : Nat) (b : Nat → Bool) : si_bij n (si_ps n b) := by
  have hn := si_cn_not n b
  have key : ∀ i j, i < n → j < n → i < j → si_ps n b i ≠ si_ps n b j := by
    intro i j hi hj hij
    cases ei : b i <;> cases ej : b j
    · have := si_cn_ups (P := fun k => !b k) hij (by simp [ei])
      rw [si_ps_f ei, si_ps_f ej]; omega
    · have := si_cn_ups (P := fun k => !b k) hi (by simp [ei])
      rw [si_ps_f ei, si_ps_t ej]; omega
    · have := si_cn_ups (P := fun k => !b k) hj (by simp [ej])
      rw [si_ps_t ei, si_ps_f ej]; omega
    · have := si_cn_ups hij ei
      rw [si_ps_t ei, si_ps_t ej]; omega
  refine ⟨fun i hi => ?_, fun i j hi hj h => ?_⟩
  · cases ei : b i
    · have := si_cn_ups (P := fun k => !b k) hi (by simp [ei])
      rw [si_ps_f ei]; omega
    · have := si_cn_ups hi ei
      rw [si_ps_t ei]; omega
  · rcases Nat.lt_trichotomy i j with e | e | e
    · exact absurd h (key i j hi hj e)
    · exact e
    · exact absurd h.symm (key j i hj hi e)
theorem si_ps_congr {n : Nat} {b b' : Nat → Bool} (h : ∀ i, i < n → b i = b' i) {i : Nat} (hi : i < n) : si_ps n b i = si_ps n b' i := by
  unfold si_ps
  rw [h i hi, si_cn_congr (n := n) (P := fun k => !b k) (Q := fun k => !b' k) (fun k hk => by rw [h k hk]), si_cn_congr (n := i) (P := fun k => !b k) (Q := fun k => !b' k) (fun k hk => by rw [h k (by omega)]), si_cn_congr (n := i) (P := b) (Q := b') (fun k hk => h k (by omega))]
/-- bit j of a code of seven bits, the highest first -/
def si_bt (j c : Nat) : Bool := c / 2 ^ (6 - j) % 2 == 1
/-- the place of row x at level j -/
def si_lp (c : Nat → Nat) (n : Nat) : Nat → Nat → Nat
  | 0 => fun x => x
  | j + 1 => fun x => si_ps n (fun i => si_bt j (c (si_iv n (si_lp c n j) i))) (si_lp c n j x)
/-- the bit at place i of level j -/
def si_lb (c : Nat → Nat) (n j i : Nat) : Bool := si_bt j (c (si_iv n (si_lp c n j) i))
theorem si_lp_s (c : Nat → Nat) (n j x : Nat) : si_lp c n (j + 1) x = si_ps n (si_lb c n j) (si_lp c n j x) := rfl
theorem si_lp_bij (c : Nat → Nat) (n j : Nat) : si_bij n (si_lp c n j) := by
  induction j with
  | zero => exact ⟨fun _ h => h, fun _ _ _ _ h => h⟩
  | succ j ih => exact si_bij_comp (f := si_lp c n j) (g := si_ps n (si_lb c n j)) ih (si_ps_bij n (si_lb c n j))
theorem si_lb_at {c : Nat → Nat} {n j x : Nat} (hx : x < n) : si_lb c n j (si_lp c n j x) = si_bt j (c x) := by
  unfold si_lb
  rw [si_iv_f (si_lp_bij c n j) hx]
/-- the word with the bits b below n -/
def si_wd : Nat → (Nat → Bool) → Int64
  | 0, _ => 0
  | n + 1, b => if b n = true then si_wd n b ||| ((1 : Int64) <<< ((nI n).toInt64 &&& 63)) else si_wd n b
theorem si_wd_t {n : Nat} {b : Nat → Bool} (h : b n = true) : si_wd (n + 1) b = si_wd n b ||| ((1 : Int64) <<< ((nI n).toInt64 &&& 63)) := if_pos h
theorem si_wd_f {n : Nat} {b : Nat → Bool} (h : b n = false) : si_wd (n + 1) b = si_wd n b := if_neg (by rw [h]; decide)
theorem si_wd_congr {n : Nat} {b b' : Nat → Bool} (h : ∀ i, i < n → b i = b' i) : si_wd n b = si_wd n b' := by
  induction n with
  | zero => rfl
  | succ n ih =>
    have ih := ih (fun i hi => h i (by omega))
    have hn := h n (by omega)
    cases e : b n with
    | true => rw [si_wd_t e, si_wd_t (hn ▸ e), ih]
    | false => rw [si_wd_f e, si_wd_f (hn ▸ e), ih]
/-- bit i of a word -/
def si_bi (w : Int64) (i : Nat) : Bool := w.toBitVec.getLsbD i
theorem si_sh1 : ∀ k, k < 64 → ((1 : Int64) <<< ((nI k).toInt64 &&& 63)).toBitVec = BitVec.twoPow 64 k := by decide +kernel
theorem si_or1 (w : Int64) {k : Nat} (hk : k < 64) (i : Nat) : si_bi (w ||| ((1 : Int64) <<< ((nI k).toInt64 &&& 63))) i = (si_bi w i || decide (k = i)) := by
  unfold si_bi
  rw [Int64.toBitVec_or, BitVec.getLsbD_or, si_sh1 k hk, BitVec.getLsbD_twoPow]
  simp [hk]
theorem si_bi_0 (i : Nat) : si_bi 0 i = false := by
  unfold si_bi
  show (0#64).getLsbD i = false
  simp
theorem si_wd_bi {n : Nat} (hn : n ≤ 64) (b : Nat → Bool) (i : Nat) : si_bi (si_wd n b) i = (decide (i < n) && b i) := by
  induction n with
  | zero => exact (si_bi_0 i).trans (by simp)
  | succ n ih =>
    have ih := ih (by omega)
    cases e : b n with
    | true =>
      rw [si_wd_t e, si_or1 _ (by omega), ih]
      by_cases q : n = i
      · subst q; simp [e]
      · have : decide (i < n + 1) = decide (i < n) := decide_eq_decide.mpr (by omega)
        rw [this]; simp [q]
    | false =>
      rw [si_wd_f e, ih]
      by_cases q : n = i
      · subst q; simp [e]
      · have : decide (i < n + 1) = decide (i < n) := decide_eq_decide.mpr (by omega)
        rw [this]
theorem si_bi_ext {w v : Int64} (h : ∀ i, i < 64 → si_bi w i = si_bi v i) : w = v :=
  wb_inj (BitVec.eq_of_getLsbD_eq (fun i hi => h i hi))
theorem si_and1 (x : BitVec 64) : (x &&& 1#64) = if x.getLsbD 0 = true then 1#64 else 0#64 := by
  apply BitVec.eq_of_getLsbD_eq
  intro i hi
  rw [BitVec.getLsbD_and]
  cases i with
  | zero =>
    cases h : x.getLsbD 0
    · rw [if_neg (by decide), Bool.false_and]; decide
    · rw [if_pos rfl, Bool.true_and]
  | succ i =>
    have h1 : (1#64).getLsbD (i + 1) = false := by simp
    rw [h1, Bool.and_false]
    cases h : x.getLsbD 0
    · rw [if_neg (by decide)]; simp
    · rw [if_pos rfl, h1]
theorem si_ite1 (b : Bool) : (if b = true then (1 : Int64) else 0).toBitVec = if b = true then 1#64 else 0#64 := by cases b <;> rfl
/-- the bit as the class reads it -/
theorem si_ush (w : Int64) {i : Nat} (hi : i < 64) : ((w.toUInt64 >>> ((nI i).toInt64.toUInt64 &&& Int64.toUInt64 63)).toInt64 &&& 1) = if si_bi w i = true then 1 else 0 := by
  rw [wb_cu i hi]
  apply wb_inj
  have e : (w.toUInt64 >>> UInt64.ofNat i).toInt64.toBitVec = w.toBitVec >>> i := by
    apply BitVec.eq_of_toNat_eq
    show (w.toUInt64 >>> UInt64.ofNat i).toNat = _
    have h1 : (UInt64.ofNat i).toNat = i := by
      show (BitVec.ofNat 64 i).toNat = i
      rw [BitVec.toNat_ofNat, Nat.mod_eq_of_lt (by omega)]
    rw [UInt64.toNat_shiftRight, h1, Nat.mod_eq_of_lt hi, BitVec.toNat_ushiftRight]
    rfl
  rw [Int64.toBitVec_and, e, si_ite1]
  show (w.toBitVec >>> i) &&& 1#64 = _
  rw [si_and1, BitVec.getLsbD_ushiftRight, Nat.add_zero]
  rfl
/-- the bit as the reference reads it -/
theorem si_ssh (w : Int64) {i : Nat} (hi : i < 64) : ((w >>> ((nI i).toInt64 &&& 63)) &&& 1) = if si_bi w i = true then 1 else 0 := by
  rw [wb_c i hi]
  apply wb_inj
  rw [Int64.toBitVec_and, Int64.toBitVec_shiftRight, wb_tb, wb_sm i hi, si_ite1]
  show (w.toBitVec.sshiftRight' (BitVec.ofNat 64 i)) &&& 1#64 = _
  have h1 : (BitVec.ofNat 64 i).toNat = i := by rw [BitVec.toNat_ofNat, Nat.mod_eq_of_lt (by omega)]
  rw [si_and1, BitVec.sshiftRight', h1, BitVec.getLsbD_sshiftRight]
  simp [hi, si_bi]
/-- places and codes, read from the words' bits, level by level -/
def si_rp (b : Nat → Nat → Bool) (n : Nat) : Nat → Nat → Nat
  | 0 => fun x => x
  | j + 1 => fun x => si_ps n (b j) (si_rp b n j x)
def si_rc (b : Nat → Nat → Bool) (n : Nat) : Nat → Nat → Nat
  | 0 => fun _ => 0
  | j + 1 => fun x => 2 * si_rc b n j x + (if b j (si_rp b n j x) = true then 1 else 0)
theorem si_rp_s (b : Nat → Nat → Bool) (n j x : Nat) : si_rp b n (j + 1) x = si_ps n (b j) (si_rp b n j x) := rfl
theorem si_rc_s (b : Nat → Nat → Bool) (n j x : Nat) : si_rc b n (j + 1) x = 2 * si_rc b n j x + (if b j (si_rp b n j x) = true then 1 else 0) := rfl
theorem si_rp_bij (b : Nat → Nat → Bool) (n j : Nat) : si_bij n (si_rp b n j) := by
  induction j with
  | zero => exact ⟨fun _ h => h, fun _ _ _ _ h => h⟩
  | succ j ih => exact si_bij_comp (f := si_rp b n j) (g := si_ps n (b j)) ih (si_ps_bij n (b j))
theorem si_rc_lt (b : Nat → Nat → Bool) (n j x : Nat) : si_rc b n j x < 2 ^ j := by
  induction j with
  | zero => exact Nat.zero_lt_one
  | succ j ih => rw [si_rc_s, Nat.pow_succ]; split <;> omega
theorem si_rp_lp {b : Nat → Nat → Bool} {c : Nat → Nat} {n : Nat} {J : Nat} (h : ∀ j, j < J → ∀ i, i < n → b j i = si_lb c n j i) : ∀ j, j ≤ J → ∀ x, x < n → si_rp b n j x = si_lp c n j x := by
  intro j
  induction j with
  | zero => intro _ x _; rfl
  | succ j ih =>
    intro hj x hx
    rw [si_rp_s, si_lp_s, ih (by omega) x hx]
    exact si_ps_congr (h j (by omega)) ((si_lp_bij c n j).1 x hx)
theorem si_rc_c {b : Nat → Nat → Bool} {c : Nat → Nat} {n : Nat} (h : ∀ j, j < 7 → ∀ i, i < n → b j i = si_lb c n j i) {x : Nat} (hx : x < n) (hc : c x < 128) : ∀ j, j ≤ 7 → si_rc b n j x = c x / 2 ^ (7 - j) := by
  intro j
  induction j with
  | zero => intro _; rw [Nat.div_eq_of_lt (by omega)]; rfl
  | succ j ih =>
    intro hj
    rw [si_rc_s, ih (by omega), si_rp_lp h j (by omega) x hx, h j (by omega) _ ((si_lp_bij c n j).1 x hx), si_lb_at hx]
    unfold si_bt
    have e : 7 - j = (6 - j) + 1 := by omega
    have e2 : 7 - (j + 1) = 6 - j := by omega
    rw [e, e2, Nat.pow_succ, ← Nat.div_div_eq_div_mul]
    generalize c x / 2 ^ (6 - j) = a
    by_cases q : a % 2 = 1
    · rw [if_pos (by simp [q])]; omega
    · rw [if_neg (by simp; omega)]; omega
/-- a number drawn into the words from fw on -/
def si_dn (im : Nat → Int64) (fw i v : Nat) : Nat → Int64 := vp_updL im (fw + i / 10) (im (fw + i / 10) ||| (lN v <<< ((nI (6 * (i % 10))).toInt64 &&& 63)))
/-- the marks, the places of the marked rows: over the first r rows -/
def si_mr (t : List Nat) (s : Nat) : Nat → (Nat → Int64) × Nat
  | 0 => (fun _ => 0, 0)
  | r + 1 => if si_pl t r % s = 0 then (si_dn (vp_updL (si_mr t s r).1 8 ((si_mr t s r).1 8 ||| ((1 : Int64) <<< ((nI r).toInt64 &&& 63)))) 9 (si_mr t s r).2 (si_pl t r / s), (si_mr t s r).2 + 1) else si_mr t s r
theorem si_mr_t {t : List Nat} {s r : Nat} (h : si_pl t r % s = 0) : si_mr t s (r + 1) = (si_dn (vp_updL (si_mr t s r).1 8 ((si_mr t s r).1 8 ||| ((1 : Int64) <<< ((nI r).toInt64 &&& 63)))) 9 (si_mr t s r).2 (si_pl t r / s), (si_mr t s r).2 + 1) := if_pos h
theorem si_mr_f {t : List Nat} {s r : Nat} (h : ¬ si_pl t r % s = 0) : si_mr t s (r + 1) = si_mr t s r := if_neg h
theorem si_mr_le (t : List Nat) (s r : Nat) : (si_mr t s r).2 ≤ r := by
  induction r with
  | zero => exact Nat.le_refl 0
  | succ r ih =>
    by_cases h : si_pl t r % s = 0
    · rw [si_mr_t h]; show (si_mr t s r).2 + 1 ≤ r + 1; omega
    · rw [si_mr_f h]; omega
/-- the rows of the places: over the first q of them -/
def si_rw (t : List Nat) (s : Nat) : Nat → (Nat → Int64)
  | 0 => (si_mr t s (t.length + 1)).1
  | q + 1 => si_dn (si_rw t s q) 16 q (si_rk t (q * s))
/-- the image of the text t at the rate s -/
def si_im (t : List Nat) (s : Nat) : Nat → Int64 := fun k => if k = 0 then lN (t.length + 256 * s) else if k < 8 then si_wd (t.length + 1) (si_lb (si_B t) (t.length + 1) (k - 1)) else si_rw t s (t.length / s + 1) k
def si_is (d : Nat → Int64) (t : List Nat) (s : Nat) : Prop := si_ok t ∧ 1 ≤ s ∧ s ≤ 16 ∧ ∀ k, k < 23 → d k = si_im t s k
/-- the bits of the levels in the words d -/
def si_db (d : Nat → Int64) (j i : Nat) : Bool := si_bi (d (1 + j)) i
theorem si_is_bits {d : Nat → Int64} {t : List Nat} {s : Nat} (h : si_is d t s) : ∀ j, j < 7 → ∀ i, i < t.length + 1 → si_db d j i = si_lb (si_B t) (t.length + 1) j i := by
  intro j hj i hi
  unfold si_db
  rw [h.2.2.2 (1 + j) (by omega)]
  unfold si_im
  rw [if_neg (by omega), if_pos (by omega), si_wd_bi (by have := h.1.1; omega), Nat.add_sub_cancel_left]
  simp [hi]
/-- the codes read from an image are the BEFOREs -/
theorem si_is_codes {d : Nat → Int64} {t : List Nat} {s : Nat} (h : si_is d t s) {x : Nat} (hx : x < t.length + 1) : si_rc (si_db d) (t.length + 1) 7 x = si_B t x := by
  have h1 := si_rc_c (si_is_bits h) hx (show si_B t x < 128 by have := si_B_le h.1 x; omega) 7 (Nat.le_refl 7)
  rw [h1]
  simp
theorem si_is_head {d : Nat → Int64} {t : List Nat} {s : Nat} (h : si_is d t s) : d 0 = lN (t.length + 256 * s) := by
  rw [h.2.2.2 0 (by omega)]; rfl
/-- one image, one text and rate: the text is told by its codes -/
theorem si_spell {t u : List Nat} (ht : si_ok t) (hu : si_ok u) (hn : t.length = u.length) (h : ∀ x, x < t.length + 1 → si_B t x = si_B u x) : t = u := by
  have hlf : ∀ r, r < t.length + 1 → si_lf (si_B t) (t.length + 1) r = si_lf (si_B u) (u.length + 1) r := fun r hr => by
    rw [← hn]
    exact si_cn_congr (fun i hi => by unfold si_lo; rw [h i hi, h r hr])
  have hrk : ∀ k, k ≤ t.length → si_rk t (t.length - k) = si_rk u (u.length - k) := by
    intro k
    induction k with
    | zero => intro _; rw [Nat.sub_zero, Nat.sub_zero, si_rk_n, si_rk_n]
    | succ k ih =>
      intro hk
      have e := ih (by omega)
      have h1 := si_lf_rk ht (p := t.length - k) (by omega) (by omega)
      have h2 := si_lf_rk hu (p := u.length - k) (by omega) (by omega)
      rw [hlf _ (si_rk_le (by omega)), e, h2] at h1
      rw [show t.length - (k + 1) = t.length - k - 1 by omega, show u.length - (k + 1) = u.length - k - 1 by omega]
      exact h1.symm
  apply List.ext_getElem hn
  intro p h1 h2
  have e1 := si_B_rk (t := t) (p := p + 1) (by omega)
  have e2 := si_B_rk (t := u) (p := p + 1) (by omega)
  have e3 := hrk (t.length - (p + 1)) (by omega)
  rw [show t.length - (t.length - (p + 1)) = p + 1 by omega, show u.length - (t.length - (p + 1)) = p + 1 by omega] at e3
  rw [h _ (si_rk_le (by omega)), e3, e2] at e1
  unfold si_bf at e1
  rw [if_neg (by omega), if_neg (by omega), Nat.add_sub_cancel] at e1
  rw [si_g_in h2, si_g_in h1] at e1
  exact e1.symm
