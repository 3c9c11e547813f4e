/-! 01: rows pasted from kit/rows, then own rows about numbers -/
theorem pk_us {f : Nat → Int32} {k : Nat} {x : Int32} : upd f k x k = x := if_pos rfl
theorem pk_un {f : Nat → Int32} {k j : Nat} {x : Int32} (h : j ≠ k) : upd f k x j = f j := if_neg h
theorem pk_sub {a b : Nat} (h : b ≤ a) : nI a - nI b = nI (a - b) := by
  obtain ⟨c, rfl⟩ : ∃ c, a = c + b := ⟨a - b, by omega⟩
  rw [← nI_add, Int32.add_sub_cancel, Nat.add_sub_cancel]
theorem pk_m1 (n : Nat) : nI (n + 1) + (-1) = nI n := by
  rw [← nI_1, Int32.add_assoc, show (1 : Int32) + (-1) = 0 from rfl, Int32.add_zero]
theorem pk_mul (a b : Nat) : nI a * nI b = nI (a * b) := (Int32.ofNat_mul a b).symm
theorem pk_ix (x : Int32) {n : Nat} (hn : n < 2 ^ 31) : x < 0 ∨ nI n ≤ x ∨ ∃ j : Nat, j < n ∧ x = nI j := by
  by_cases h : x < 0
  · exact Or.inl h
  · obtain ⟨j, hj, rfl⟩ := nI_of h
    by_cases h2 : j < n
    · exact Or.inr (Or.inr ⟨j, h2, rfl⟩)
    · exact Or.inr (Or.inl (nI_le (by omega) hj))
theorem pk_le {x y : Int32} {A B : Prop} (a b : Nat) (f : a ≤ b → A) (g : b < a → B) (hx : x = nI a := by rfl) (hy : y = nI b := by rfl) (ha : a < 2 ^ 31 := by omega) (hb : b < 2 ^ 31 := by omega) : (x ≤ y → A) ∧ (¬ x ≤ y → B) := by
  subst hx hy
  rw [nI_leI ha hb]
  exact ⟨f, fun z => g (by omega)⟩
theorem pk_lt {x y : Int32} {A B : Prop} (a b : Nat) (f : a < b → A) (g : b ≤ a → B) (hx : x = nI a := by rfl) (hy : y = nI b := by rfl) (ha : a < 2 ^ 31 := by omega) (hb : b < 2 ^ 31 := by omega) : (x < y → A) ∧ (¬ x < y → B) := by
  subst hx hy
  rw [nI_ltI ha hb]
  exact ⟨f, fun z => g (by omega)⟩
theorem pk_eq {x y : Int32} {A B : Prop} (a b : Nat) (f : a = b → A) (g : a ≠ b → B) (hx : x = nI a := by rfl) (hy : y = nI b := by rfl) (ha : a < 2 ^ 31 := by omega) (hb : b < 2 ^ 31 := by omega) : (x = y → A) ∧ (¬ x = y → B) := by
  subst hx hy
  rw [nI_eq ha hb]
  exact ⟨f, g⟩
theorem pk_in {x : Int32} (n N : Nat) (h : n < N) (hx : x = nI n := by rfl) (hN : N < 2 ^ 31 := by omega) : vp_in x N := by
  subst hx
  exact vp_in_nI h hN
theorem pk_cl {x : Int32} (n : Nat) (hx : x = nI n := by rfl) (h : n < 2 ^ 31 := by omega) : x.toNatClampNeg = n := by
  subst hx
  exact nI_clamp h
theorem pk_tn {n : Nat} (h : n < 2 ^ 32) : (nI n).toBitVec.toNat = n := Nat.mod_eq_of_lt h
theorem pk_and (x : Int32) {m : Int32} (k : Nat) (hm : m.toBitVec.toNat = 2 ^ k - 1) : x &&& m = nI (x.toBitVec.toNat % 2 ^ k) := by
  apply Int32.toBitVec_inj.mp
  apply BitVec.eq_of_toNat_eq
  rw [Int32.toBitVec_and, BitVec.toNat_and, hm, Nat.and_two_pow_sub_one_eq_mod]
  show _ = (BitVec.ofNat 32 _).toNat
  rw [BitVec.toNat_ofNat]
  exact (Nat.mod_eq_of_lt (Nat.lt_of_le_of_lt (Nat.mod_le _ _) x.toBitVec.isLt)).symm
theorem pk_andN {n : Nat} (h : n < 2 ^ 32) {m : Int32} (k : Nat) (hm : m.toBitVec.toNat = 2 ^ k - 1) : nI n &&& m = nI (n % 2 ^ k) := by
  rw [pk_and _ k hm, pk_tn h]
theorem pk_andE (x : Int32) {m : Int32} (k : Nat) (hm : m.toBitVec.toNat = 2 ^ k - 1) : ∃ j : Nat, j < 2 ^ k ∧ x &&& m = nI j := ⟨_, Nat.mod_lt _ (Nat.two_pow_pos k), pk_and x k hm⟩
theorem pk_andIn (x : Int32) {m : Int32} (k : Nat) (hm : m.toBitVec.toNat = 2 ^ k - 1) (hk : k ≤ 30) : vp_in (x &&& m) (2 ^ k) := by
  obtain ⟨j, hj, e⟩ := pk_andE x k hm
  rw [e]
  exact vp_in_nI hj (Nat.lt_of_le_of_lt (Nat.pow_le_pow_right (by decide) hk) (by decide))
abbrev sk_F : Type := Nat → Int32
theorem sk_m1 {n : Nat} (h : n < 2 ^ 31) : ¬ nI n = -1 := by
  intro e
  have h2 := nI_pos h
  rw [e] at h2
  exact h2 (by decide)
theorem sk_nn {n : Nat} (h : n < 2 ^ 31) : ¬ nI n < 0 := nI_pos h
def sk_bI (b : Bool) : Int32 := if b then 1 else 0
theorem sk_bI_0 {b : Bool} : sk_bI b = 0 ↔ b = false := by cases b <;> decide
theorem sk_bI_1 {b : Bool} : ¬ sk_bI b = 0 ↔ b = true := by cases b <;> decide
theorem sk_n1 : vp_nar .boolean 1 = 1 := by rfl
theorem sk_n0 : vp_nar .boolean 0 = 0 := by rfl
theorem sk_nb (b : Bool) : vp_nar .boolean (sk_bI b) = sk_bI b := by cases b <;> rfl
def sk_put (K c : Nat) (a : sk_F) (v : Int32) : sk_F := if c < K then upd a c v else a
/-- the place of element (i & 7) of array x -/
def sk_at (x i : Int32) : Int32 := x * 8 + (i &&& 7)
theorem sk_and7 (i : Int32) : ∃ j : Nat, j < 8 ∧ i &&& 7 = nI j := pk_andE i 3 (by decide)
theorem sk_pl {a : Nat} (ha : a < 2) (i : Int32) : ∃ j : Nat, j < 16 ∧ sk_at (nI a) i = nI j ∧ 8 * (nI a &&& 1) + (i &&& 7) = nI j ∧ (∀ k : Int32, k + 8 * nI a + (i &&& 7) = k + sk_at (nI a) i) := by
  obtain ⟨j, hj, e⟩ := sk_and7 i
  unfold sk_at
  have h8 : (8 : Int32) = nI 8 := by decide
  have h01 : a = 0 ∨ a = 1 := by omega
  rcases h01 with rfl | rfl
  · refine ⟨j, by omega, ?_, ?_, ?_⟩
    · rw [e, show nI 0 * 8 = (0 : Int32) from by decide, Int32.zero_add]
    · rw [e, show 8 * (nI 0 &&& 1) = (0 : Int32) from by decide, Int32.zero_add]
    · intro k
      rw [show nI 0 * 8 = (0 : Int32) from by decide, show 8 * nI 0 = (0 : Int32) from by decide, Int32.zero_add, Int32.add_zero]
  · refine ⟨8 + j, by omega, ?_, ?_, ?_⟩
    · rw [e, show nI 1 * 8 = nI 8 from by decide, nI_add]
    · rw [e, show 8 * (nI 1 &&& 1) = nI 8 from by decide, nI_add]
    · intro k
      rw [show nI 1 * 8 = nI 8 from by decide, show 8 * nI 1 = nI 8 from by decide, Int32.add_assoc]
theorem sk_sub {a b : Nat} : nI (a + b) - nI b = nI a := by
  rw [pk_sub (Nat.le_add_left b a), Nat.add_sub_cancel]
