/-! Small rows for the walks. -/
theorem si_bn (b : Bool) : b.toNat < 2 ^ 31 := by cases b <;> decide
theorem si_nb (b : Bool) : narrow .boolean (.int (nI b.toNat)) = .int (nI b.toNat) := by cases b <;> rfl
theorem si_b0 {b : Bool} (h : b.toNat = 0) : b = false := by cases b <;> first | rfl | exact absurd h (by decide)
theorem si_b1 {b : Bool} (h : b.toNat ≠ 0) : b = true := by cases b <;> first | rfl | exact absurd rfl h
theorem si_bt1 {b : Bool} (h : b = true) : b.toNat = 1 := by rw [h]; rfl
theorem si_bt0 {b : Bool} (h : b = false) : b.toNat = 0 := by rw [h]; rfl
theorem si_nt {b : Bool} (h : ¬ b = true) : b = false := by cases b <;> first | rfl | exact absurd rfl h
/-- a number that goes down to -1: k are left -/
def si_dw (p : Int32) (k : Nat) : Prop := (p = -1 ∧ k = 0) ∨ ∃ j, k = j + 1 ∧ p = nI j
theorem si_dw_s (j : Nat) : si_dw (nI j + Int32.ofInt (-1)) j := by
  cases j with
  | zero => exact Or.inl ⟨by decide, rfl⟩
  | succ j => exact Or.inr ⟨j, rfl, pk_m1 j⟩
theorem si_dw_m (j : Nat) : si_dw (nI j - nI 1) j := by
  cases j with
  | zero => exact Or.inl ⟨by decide, rfl⟩
  | succ j => exact Or.inr ⟨j, rfl, nI_pred j⟩
theorem si_dw_i (n : Nat) : si_dw (nI n) (n + 1) := Or.inr ⟨n, rfl, rfl⟩
theorem si_dw_0 {p : Int32} {k : Nat} (hk : k < 2 ^ 31) (h : si_dw p k) (hp : p < 0) : k = 0 := by
  rcases h with ⟨-, h⟩ | ⟨j, h1, h2⟩
  · exact h
  · subst h2
    exact absurd hp (nI_pos (by omega))
theorem si_dw_1 {p : Int32} {k : Nat} (h : si_dw p k) (hp : ¬ p < 0) : ∃ j, k = j + 1 ∧ p = nI j := by
  rcases h with ⟨h, -⟩ | h
  · subst h
    exact absurd (by decide) hp
  · exact h
theorem si_bz (b : Bool) : lg_cmp (if b = true then 1 else 0) 0 = 0 ↔ b = false := by
  rw [si_lc0]
  cases b
  · simp
  · simp
theorem si_ca_b {t : List Nat} {f : Nat → Int32} (h : si_ln t f) {p : Nat} (hp : p ≤ t.length) (hn : t.length < 2 ^ 31) : si_ca f t.length (nI p - nI 1) (nI (si_bf t p)) := by
  cases p with
  | zero =>
    refine Or.inr ⟨Or.inl (by decide), ?_⟩
    rfl
  | succ k =>
    have e : nI (k + 1) - nI 1 = nI k := nI_pred k
    refine Or.inl ⟨k, by omega, e, ?_⟩
    rw [h k (by omega)]
    rfl
theorem si_or0 (w : Int64) : w ||| 0 = w := by
  apply wb_inj
  rw [Int64.toBitVec_or]
  show w.toBitVec ||| 0#64 = _
  simp
theorem si_wd_s (b : Nat → Bool) {n : Nat} (hn : n < 64) : si_wd n b ||| (lN (b n).toNat <<< ((nI n).toInt64 &&& 63)) = si_wd (n + 1) b := by
  cases h : b n with
  | true => rw [si_wd_t h]; rfl
  | false =>
    rw [si_wd_f h]
    show si_wd n b ||| (lN 0 <<< ((nI n).toInt64 &&& 63)) = _
    rw [wb_shl 0 hn, Nat.zero_mul]
    exact si_or0 _
theorem si_sl5 : ∀ n, n < 32 → ((nI n &&& 31).toBitVec.smod 32).toNat = n := by decide +kernel
theorem si_btn (j c : Nat) : (si_bt j c).toNat = c / 2 ^ (6 - j) % 2 := by
  unfold si_bt
  rcases Nat.mod_two_eq_zero_or_one (c / 2 ^ (6 - j)) with h | h <;> rw [h] <;> rfl
