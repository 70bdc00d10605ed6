/-! Numbers, and what the cells hold: words for both sides. -/
theorem u_sl : ∀ n, n < 32 → ((nI n &&& 31).toBitVec.smod 32).toNat = n := by decide +kernel
theorem n_shl {a k : Nat} (hk : k < 32) (h : a * 2 ^ k < 2 ^ 32) : nI a <<< (nI k &&& 31) = nI (a * 2 ^ k) := pk_shlN _ k (u_sl k hk) h
theorem n_shr {a k : Nat} (ha : a < 2 ^ 31) (hk : k < 32) : nI a >>> (nI k &&& 31) = nI (a / 2 ^ k) := pk_shrN ha _ k (u_sl k hk)
theorem n_dec {a : Nat} (h : a < 2 ^ 31) : nI a + (-1) < nI a := by
  cases a with
  | zero => decide
  | succ a => rw [pk_m1]; exact nI_lt (by omega) h
theorem n_sub1 (x : Int32) : x - 1 = x + (-1) := Int32.sub_eq_add_neg x 1
theorem n_p1 {k : Nat} : 2 ^ (k + 1) = 2 * 2 ^ k := by rw [Nat.pow_succ]; omega
theorem n_pp (k : Nat) : 0 < 2 ^ k := Nat.two_pow_pos k
/-- the powers of two that occur -/
theorem n_p6 {t : Nat} (h : t ≤ 6) : 2 ^ t ≤ 64 := by
  have h2 : 2 ^ t ≤ 2 ^ 6 := Nat.pow_le_pow_right (by decide) h
  exact h2
theorem n_lit0 : (0 : Int32) = nI 0 := rfl
theorem n_lit1 : (1 : Int32) = nI 1 := rfl
theorem n_lit2 : (2 : Int32) = nI 2 := rfl
theorem n_lit4 : (4 : Int32) = nI 4 := rfl
theorem n_lit8 : (8 : Int32) = nI 8 := rfl
theorem n_m1 {a : Nat} (h : a < 2 ^ 31) : ¬ nI a = -1 := by
  intro e
  have := congrArg Int32.toInt e
  rw [nI_toInt h] at this
  have h2 : ((-1 : Int32)).toInt = -1 := by decide
  omega
theorem n_m1n {a : Nat} (h : a < 2 ^ 31) : ¬ nI a < 0 := nI_pos h
/-- how many of the cells a, a+1 .. (w of them) are full -/
def cnt (K : Nat → Int64) (a : Nat) : Nat → Nat
  | 0 => 0
  | w + 1 => cnt K a w + (if K (a + w) = NOK then 0 else 1)
theorem cnt_s (K : Nat → Int64) (a w : Nat) : cnt K a (w + 1) = cnt K a w + (if K (a + w) = NOK then 0 else 1) := rfl
theorem cnt_le (K : Nat → Int64) (a : Nat) : ∀ w, cnt K a w ≤ w
  | 0 => Nat.le_refl 0
  | w + 1 => by
    have h := cnt_le K a w
    rw [cnt_s]
    split <;> omega
theorem cnt_mono (K : Nat → Int64) (a w : Nat) : ∀ k, cnt K a w ≤ cnt K a (w + k)
  | 0 => Nat.le_refl _
  | k + 1 => by
    have h := cnt_mono K a w k
    rw [show w + (k + 1) = (w + k) + 1 from rfl, cnt_s]
    omega
theorem cnt_congr {K K' : Nat → Int64} {a : Nat} : ∀ {w : Nat}, (∀ i, i < w → (K (a + i) = NOK ↔ K' (a + i) = NOK)) → cnt K a w = cnt K' a w
  | 0, _ => rfl
  | w + 1, h => by
    rw [cnt_s, cnt_s, cnt_congr (fun i hi => h i (by omega))]
    have e := h w (by omega)
    by_cases c : K (a + w) = NOK
    · rw [if_pos c, if_pos (e.mp c)]
    · rw [if_neg c, if_neg (fun q => c (e.mpr q))]
/-- the greatest-placed key among the cells a .. a+w-1, or none -/
def gr (K : Nat → Int64) (a : Nat) : Nat → Int64
  | 0 => NOK
  | w + 1 => if K (a + w) = NOK then gr K a w else K (a + w)
theorem gr_s (K : Nat → Int64) (a w : Nat) : gr K a (w + 1) = if K (a + w) = NOK then gr K a w else K (a + w) := rfl
theorem gr_none {K : Nat → Int64} {a : Nat} : ∀ {w : Nat}, gr K a w = NOK → ∀ i, i < w → K (a + i) = NOK
  | 0, _, i, hi => absurd hi (by omega)
  | w + 1, h, i, hi => by
    rw [gr_s] at h
    by_cases c : K (a + w) = NOK
    · rw [if_pos c] at h
      rcases Nat.lt_or_ge i w with q | q
      · exact gr_none h i q
      · obtain rfl : i = w := by omega
        exact c
    · rw [if_neg c] at h
      exact absurd h c
theorem gr_some {K : Nat → Int64} {a : Nat} : ∀ {w : Nat}, gr K a w ≠ NOK → ∃ i, i < w ∧ K (a + i) = gr K a w
  | 0, h => absurd rfl h
  | w + 1, h => by
    rw [gr_s] at h ⊢
    by_cases c : K (a + w) = NOK
    · rw [if_pos c] at h ⊢
      obtain ⟨i, hi, e⟩ := gr_some h
      exact ⟨i, by omega, e⟩
    · rw [if_neg c]
      exact ⟨w, by omega, rfl⟩
/-- full cells rise -/
def Srt (K : Nat → Int64) : Prop := ∀ i j, i < j → j < 512 → K i ≠ NOK → K j ≠ NOK → K i < K j
theorem l_lt_of_le_of_lt {a b c : Int64} (h : a ≤ b) (h2 : b < c) : a < c := by
  rw [Int64.lt_iff_toInt_lt] at *; rw [Int64.le_iff_toInt_le] at *; omega
theorem l_lt_of_lt_of_le {a b c : Int64} (h : a < b) (h2 : b ≤ c) : a < c := by
  rw [Int64.lt_iff_toInt_lt] at *; rw [Int64.le_iff_toInt_le] at *; omega
theorem l_lt_trans {a b c : Int64} (h : a < b) (h2 : b < c) : a < c := by
  rw [Int64.lt_iff_toInt_lt] at *; omega
theorem l_le_of_lt {a b : Int64} (h : a < b) : a ≤ b := by
  rw [Int64.le_iff_toInt_le]; rw [Int64.lt_iff_toInt_lt] at h; omega
theorem l_nlt {a b : Int64} : ¬ a < b ↔ b ≤ a := by
  rw [Int64.le_iff_toInt_le, Int64.lt_iff_toInt_lt]; omega
theorem l_nle {a b : Int64} : ¬ a ≤ b ↔ b < a := by
  rw [Int64.le_iff_toInt_le, Int64.lt_iff_toInt_lt]; omega
theorem l_irr {a : Int64} : ¬ a < a := by rw [Int64.lt_iff_toInt_lt]; omega
theorem l_le_rf {a : Int64} : a ≤ a := by rw [Int64.le_iff_toInt_le]; omega
theorem l_anti {a b : Int64} (h : a ≤ b) (h2 : b ≤ a) : a = b := by
  apply Int64.toInt_inj.mp; rw [Int64.le_iff_toInt_le] at *; omega
theorem l_lt_of_le_ne {a b : Int64} (h : a ≤ b) (h2 : a ≠ b) : a < b := by
  rw [← l_nle]; exact fun q => h2 (l_anti h q)
theorem l_ne_of_lt {a b : Int64} (h : a < b) : a ≠ b := fun e => l_irr (e ▸ h)
