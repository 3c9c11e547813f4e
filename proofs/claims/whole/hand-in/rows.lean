section
/-! 01: rows pasted from kit/rows, then own rows about numbers -/
theorem pk_us {f : Nat → Int32} {k : Nat} {x : Int32} : upd f k x k = x := if_pos rfl
theorem pk_un {f : Nat → Int32} {k j : Nat} {x : Int32} (h : j ≠ k) : upd f k x j = f j := if_neg h
theorem pk_sub {a b : Nat} (h : b ≤ a) : nI a - nI b = nI (a - b) := by
  obtain ⟨c, rfl⟩ : ∃ c, a = c + b := ⟨a - b, by omega⟩
  rw [← nI_add, Int32.add_sub_cancel, Nat.add_sub_cancel]
theorem pk_m1 (n : Nat) : nI (n + 1) + (-1) = nI n := by
  rw [← nI_1, Int32.add_assoc, show (1 : Int32) + (-1) = 0 from rfl, Int32.add_zero]
theorem pk_mul (a b : Nat) : nI a * nI b = nI (a * b) := (Int32.ofNat_mul a b).symm
theorem pk_ix (x : Int32) {n : Nat} (hn : n < 2 ^ 31) : x < 0 ∨ nI n ≤ x ∨ ∃ j : Nat, j < n ∧ x = nI j := by
  by_cases h : x < 0
  · exact Or.inl h
  · obtain ⟨j, hj, rfl⟩ := nI_of h
    by_cases h2 : j < n
    · exact Or.inr (Or.inr ⟨j, h2, rfl⟩)
    · exact Or.inr (Or.inl (nI_le (by omega) hj))
theorem pk_le {x y : Int32} {A B : Prop} (a b : Nat) (f : a ≤ b → A) (g : b < a → B) (hx : x = nI a := by rfl) (hy : y = nI b := by rfl) (ha : a < 2 ^ 31 := by omega) (hb : b < 2 ^ 31 := by omega) : (x ≤ y → A) ∧ (¬ x ≤ y → B) := by
  subst hx hy
  rw [nI_leI ha hb]
  exact ⟨f, fun z => g (by omega)⟩
theorem pk_lt {x y : Int32} {A B : Prop} (a b : Nat) (f : a < b → A) (g : b ≤ a → B) (hx : x = nI a := by rfl) (hy : y = nI b := by rfl) (ha : a < 2 ^ 31 := by omega) (hb : b < 2 ^ 31 := by omega) : (x < y → A) ∧ (¬ x < y → B) := by
  subst hx hy
  rw [nI_ltI ha hb]
  exact ⟨f, fun z => g (by omega)⟩
theorem pk_eq {x y : Int32} {A B : Prop} (a b : Nat) (f : a = b → A) (g : a ≠ b → B) (hx : x = nI a := by rfl) (hy : y = nI b := by rfl) (ha : a < 2 ^ 31 := by omega) (hb : b < 2 ^ 31 := by omega) : (x = y → A) ∧ (¬ x = y → B) := by
  subst hx hy
  rw [nI_eq ha hb]
  exact ⟨f, g⟩
theorem pk_in {x : Int32} (n N : Nat) (h : n < N) (hx : x = nI n := by rfl) (hN : N < 2 ^ 31 := by omega) : vp_in x N := by
  subst hx
  exact vp_in_nI h hN
theorem pk_cl {x : Int32} (n : Nat) (hx : x = nI n := by rfl) (h : n < 2 ^ 31 := by omega) : x.toNatClampNeg = n := by
  subst hx
  exact nI_clamp h
theorem pk_tn {n : Nat} (h : n < 2 ^ 32) : (nI n).toBitVec.toNat = n := Nat.mod_eq_of_lt h
theorem pk_and (x : Int32) {m : Int32} (k : Nat) (hm : m.toBitVec.toNat = 2 ^ k - 1) : x &&& m = nI (x.toBitVec.toNat % 2 ^ k) := by
  apply Int32.toBitVec_inj.mp
  apply BitVec.eq_of_toNat_eq
  rw [Int32.toBitVec_and, BitVec.toNat_and, hm, Nat.and_two_pow_sub_one_eq_mod]
  show _ = (BitVec.ofNat 32 _).toNat
  rw [BitVec.toNat_ofNat]
  exact (Nat.mod_eq_of_lt (Nat.lt_of_le_of_lt (Nat.mod_le _ _) x.toBitVec.isLt)).symm
theorem pk_andN {n : Nat} (h : n < 2 ^ 32) {m : Int32} (k : Nat) (hm : m.toBitVec.toNat = 2 ^ k - 1) : nI n &&& m = nI (n % 2 ^ k) := by
  rw [pk_and _ k hm, pk_tn h]
theorem pk_andE (x : Int32) {m : Int32} (k : Nat) (hm : m.toBitVec.toNat = 2 ^ k - 1) : ∃ j : Nat, j < 2 ^ k ∧ x &&& m = nI j := ⟨_, Nat.mod_lt _ (Nat.two_pow_pos k), pk_and x k hm⟩
theorem pk_andIn (x : Int32) {m : Int32} (k : Nat) (hm : m.toBitVec.toNat = 2 ^ k - 1) (hk : k ≤ 30) : vp_in (x &&& m) (2 ^ k) := by
  obtain ⟨j, hj, e⟩ := pk_andE x k hm
  rw [e]
  exact vp_in_nI hj (Nat.lt_of_le_of_lt (Nat.pow_le_pow_right (by decide) hk) (by decide))
abbrev sk_F : Type := Nat → Int32
theorem sk_m1 {n : Nat} (h : n < 2 ^ 31) : ¬ nI n = -1 := by
  intro e
  have h2 := nI_pos h
  rw [e] at h2
  exact h2 (by decide)
theorem sk_nn {n : Nat} (h : n < 2 ^ 31) : ¬ nI n < 0 := nI_pos h
def sk_bI (b : Bool) : Int32 := if b then 1 else 0
theorem sk_bI_0 {b : Bool} : sk_bI b = 0 ↔ b = false := by cases b <;> decide
theorem sk_bI_1 {b : Bool} : ¬ sk_bI b = 0 ↔ b = true := by cases b <;> decide
theorem sk_n1 : vp_nar .boolean 1 = 1 := by rfl
theorem sk_n0 : vp_nar .boolean 0 = 0 := by rfl
theorem sk_nb (b : Bool) : vp_nar .boolean (sk_bI b) = sk_bI b := by cases b <;> rfl
def sk_put (K c : Nat) (a : sk_F) (v : Int32) : sk_F := if c < K then upd a c v else a
/-- the place of element (i & 7) of array x -/
def sk_at (x i : Int32) : Int32 := x * 8 + (i &&& 7)
theorem sk_and7 (i : Int32) : ∃ j : Nat, j < 8 ∧ i &&& 7 = nI j := pk_andE i 3 (by decide)
theorem sk_pl {a : Nat} (ha : a < 2) (i : Int32) : ∃ j : Nat, j < 16 ∧ sk_at (nI a) i = nI j ∧ 8 * (nI a &&& 1) + (i &&& 7) = nI j ∧ (∀ k : Int32, k + 8 * nI a + (i &&& 7) = k + sk_at (nI a) i) := by
  obtain ⟨j, hj, e⟩ := sk_and7 i
  unfold sk_at
  have h8 : (8 : Int32) = nI 8 := by decide
  have h01 : a = 0 ∨ a = 1 := by omega
  rcases h01 with rfl | rfl
  · refine ⟨j, by omega, ?_, ?_, ?_⟩
    · rw [e, show nI 0 * 8 = (0 : Int32) from by decide, Int32.zero_add]
    · rw [e, show 8 * (nI 0 &&& 1) = (0 : Int32) from by decide, Int32.zero_add]
    · intro k
      rw [show nI 0 * 8 = (0 : Int32) from by decide, show 8 * nI 0 = (0 : Int32) from by decide, Int32.zero_add, Int32.add_zero]
  · refine ⟨8 + j, by omega, ?_, ?_, ?_⟩
    · rw [e, show nI 1 * 8 = nI 8 from by decide, nI_add]
    · rw [e, show 8 * (nI 1 &&& 1) = nI 8 from by decide, nI_add]
    · intro k
      rw [show nI 1 * 8 = nI 8 from by decide, show 8 * nI 1 = nI 8 from by decide, Int32.add_assoc]
theorem sk_sub {a b : Nat} : nI (a + b) - nI b = nI a := by
  rw [pk_sub (Nat.le_add_left b a), Nat.add_sub_cancel]
end
section
/-! 02: expressions. A node's value out of the values of its parts; what X's list machine and Y's stack machine do with an expression, each over rules of one step -/
def sk_w (ew : sk_F) (e : Nat) : Nat := (ew e).toNatClampNeg
def sk_cb (k x y : Int32) : Int32 :=
  if k = 3 then x + y else if k = 4 then x - y else if k = 5 then x * y else if k = 6 then x &&& y else if k = 7 then x ||| y
  else if k = 8 then x ^^^ y else if k = 9 then x <<< ((y &&& 31) &&& 31) else if k = 10 then (x.toUInt32 >>> ((y &&& 31).toUInt32 &&& Int32.toUInt32 31)).toInt32
  else if k = 11 then (if y ≤ x then 0 else 1) else (if x = y then 1 else 0)
def sk_ar (ek : sk_F) (e : Nat) : Nat := if ek e = 0 then 0 else if ek e = 1 then 0 else if ek e = 2 then 1 else if ek e = 13 then 1 else if ek e = 14 then 3 else 2
def sk_nv (ek ex vs es : sk_F) (e : Nat) (a b c : Int32) : Int32 :=
  if ek e = 0 then ex e else if ek e = 1 then vs (ex e).toNatClampNeg else if ek e = 2 then es (sk_at (ex e) a).toNatClampNeg
  else if ek e = 13 then (a ^^^ (-1)) else if ek e = 14 then (if a = 0 then c else b) else sk_cb (ek e) a b
def sk_lc (ek : sk_F) (e lc : Nat) : Nat := if ek e = 2 then lc + 1 else lc
def sk_la (ek ex : sk_F) (e : Nat) (a : Int32) (lc : Nat) (la : sk_F) : sk_F := if ek e = 2 then sk_put 200 lc la (16 + sk_at (ex e) a) else la
def sk_seg (ew od : sk_F) (b p : Nat) : Prop := ∀ j, j < sk_w ew p → od (b + j) = od (30 * p + j)
def sk_bin (ek : sk_F) (e : Nat) : Prop := ∃ k : Nat, 3 ≤ k ∧ k ≤ 12 ∧ ek e = nI k
/-- an expression as it must be: kind, operands, weight, X's parts and X's order -/
def sk_node (ek ex ey ez ew px py pz od : sk_F) (e : Nat) : Prop :=
  (ew e = nI (sk_w ew e) ∧ sk_w ew e ≤ 30 ∧ od (30 * e + (sk_w ew e - 1)) = nI e) ∧
  ((ek e = 0 ∧ sk_w ew e = 1 ∧ px e = -1 ∧ py e = -1 ∧ pz e = -1)
  ∨ (ek e = 1 ∧ sk_w ew e = 1 ∧ px e = -1 ∧ py e = -1 ∧ pz e = -1 ∧ ∃ v, v < 8 ∧ ex e = nI v)
  ∨ (ek e = 2 ∧ px e = -1 ∧ pz e = -1 ∧ ∃ a p, a < 2 ∧ p < e ∧ ex e = nI a ∧ ey e = nI p ∧ py e = nI p ∧ sk_w ew e = sk_w ew p + 1 ∧ sk_seg ew od (30 * e) p)
  ∨ (ek e = 13 ∧ py e = -1 ∧ pz e = -1 ∧ ∃ p, p < e ∧ ex e = nI p ∧ px e = nI p ∧ sk_w ew e = sk_w ew p + 1 ∧ sk_seg ew od (30 * e) p)
  ∨ (ek e = 14 ∧ ∃ p q r, p < e ∧ q < e ∧ r < e ∧ ex e = nI p ∧ ey e = nI q ∧ ez e = nI r ∧ px e = nI p ∧ py e = nI q ∧ pz e = nI r ∧ sk_w ew e = sk_w ew p + sk_w ew q + sk_w ew r + 1 ∧ sk_seg ew od (30 * e) p ∧ sk_seg ew od (30 * e + sk_w ew p) q ∧ sk_seg ew od (30 * e + sk_w ew p + sk_w ew q) r)
  ∨ (sk_bin ek e ∧ pz e = -1 ∧ ∃ p q, p < e ∧ q < e ∧ ex e = nI p ∧ ey e = nI q ∧ px e = nI p ∧ py e = nI q ∧ sk_w ew e = sk_w ew p + sk_w ew q + 1 ∧ sk_seg ew od (30 * e) p ∧ sk_seg ew od (30 * e + sk_w ew p) q))
abbrev sk_WE : Type := Nat → Nat → Nat → Nat → sk_F → sk_F → Prop
/-- X's rule: fuel, place in the list, height, leak count, leaks, values -/
def sk_RX (M : Nat) (ek ex ew od vs es : sk_F) (E : Nat) (W : sk_WE) : Prop :=
  ∀ (n i h lc : Nat) (la vals : sk_F) (e : Nat), e < M → od (30 * E + i) = nI e → i < sk_w ew E → h + sk_ar ek e ≤ 30 → h < 30 → lc < 2 ^ 30 →
    W n (i + 1) (h + 1) (sk_lc ek e lc) (sk_la ek ex e (vals h) lc la) (upd vals h (sk_nv ek ex vs es e (vals h) (vals (h + 1)) (vals (h + 2)))) →
    W (n + 1) i (h + sk_ar ek e) lc la vals
def sk_EvX (M : Nat) (ek ex ew od vs es : sk_F) (e lc : Nat) (la : sk_F) (v : Int32) (lc' : Nat) (la' : sk_F) : Prop :=
  ∀ (E : Nat) (W : sk_WE), sk_RX M ek ex ew od vs es E W → ∀ (n i h : Nat) (vals : sk_F), sk_seg ew od (30 * E + i) e → i + sk_w ew e ≤ sk_w ew E → h + sk_w ew e ≤ 30 →
    (∀ vals' : sk_F, (∀ j, j < h → vals' j = vals j) → vals' h = v → W n (i + sk_w ew e) (h + 1) lc' la' vals') →
    W (n + sk_w ew e) i h lc la vals
def sk_cl (ek : sk_F) (e g : Nat) : Prop := ((ek e = 0 ∨ ek e = 1) ∧ g = 0) ∨ (ek e = 13 ∧ g = 1) ∨ (ek e = 2 ∧ g = 2) ∨ (sk_bin ek e ∧ g = 2) ∨ (ek e = 14 ∧ g = 3)
def sk_nx (ek ex ey ez : sk_F) (e g g' p : Nat) : Prop := (ek e = 2 ∧ g = 0 ∧ g' = 2 ∧ ey e = nI p) ∨ ((ek e = 13 ∨ ek e = 14 ∨ sk_bin ek e) ∧ g = 0 ∧ g' = 1 ∧ ex e = nI p)
  ∨ ((ek e = 14 ∨ sk_bin ek e) ∧ g = 1 ∧ g' = 2 ∧ ey e = nI p) ∨ (ek e = 14 ∧ g = 2 ∧ g' = 3 ∧ ez e = nI p)
abbrev sk_WY : Type := Nat → Nat → Nat → Nat → Nat → sk_F → sk_F → sk_F → sk_F → Prop
/-- Y's rules: fuel, counter, depth, top, leak count, leaks, walk, at, found -/
def sk_RYc (M : Nat) (ek ex vs es : sk_F) (W : sk_WY) : Prop :=
  ∀ (n k d tp lc : Nat) (la wk at' fd : sk_F) (e g : Nat), e < M → wk d = nI e → at' d = nI g → sk_cl ek e g → k < 120 → d < 31 → tp < 31 → tp + sk_ar ek e ≤ 32 → lc < 2 ^ 30 →
    (∀ at2 : sk_F, (∀ j, j < d → at2 j = at' j) → W n (k + 1) d (tp + 1) (sk_lc ek e lc) (sk_la ek ex e (fd tp) lc la) wk at2 (upd fd tp (sk_nv ek ex vs es e (fd tp) (fd (tp + 1)) (fd (tp + 2))))) →
    W (n + 1) k (d + 1) (tp + sk_ar ek e) lc la wk at' fd
def sk_RYb (M : Nat) (ek ex ey ez : sk_F) (W : sk_WY) : Prop :=
  ∀ (n k d tp lc : Nat) (la wk at' fd : sk_F) (e g g' p : Nat), e < M → wk d = nI e → at' d = nI g → sk_nx ek ex ey ez e g g' p → k < 120 → d < 31 →
    (∀ wk2 at2 : sk_F, (∀ j, j < d + 1 → wk2 j = wk j) → (∀ j, j < d → at2 j = at' j) → at2 d = nI g' → wk2 (d + 1) = nI p → at2 (d + 1) = 0 → W n (k + 1) (d + 2) tp lc la wk2 at2 fd) →
    W (n + 1) k (d + 1) tp lc la wk at' fd
def sk_RY (M : Nat) (ek ex ey ez vs es : sk_F) (W : sk_WY) : Prop := sk_RYc M ek ex vs es W ∧ sk_RYb M ek ex ey ez W
def sk_EvY (M : Nat) (ek ex ey ez ew vs es : sk_F) (e lc : Nat) (la : sk_F) (v : Int32) (lc' : Nat) (la' : sk_F) : Prop :=
  ∀ (W : sk_WY), sk_RY M ek ex ey ez vs es W → ∀ (n k d tp : Nat) (wk at' fd : sk_F), wk d = nI e → at' d = 0 → d + sk_w ew e ≤ 31 → tp + sk_w ew e ≤ 31 → k + (2 * sk_w ew e - 1) ≤ 120 →
    (∀ wk2 at2 fd2 : sk_F, (∀ j, j < d → wk2 j = wk j ∧ at2 j = at' j) → (∀ j, j < tp → fd2 j = fd j) → fd2 tp = v → W n (k + (2 * sk_w ew e - 1)) d (tp + 1) lc' la' wk2 at2 fd2) →
    W (n + (2 * sk_w ew e - 1)) k (d + 1) tp lc la wk at' fd
theorem sk_bin_ne {ek : sk_F} {e : Nat} (h : sk_bin ek e) : ¬ ek e = 0 ∧ ¬ ek e = 1 ∧ ¬ ek e = 2 ∧ ¬ ek e = 13 ∧ ¬ ek e = 14 := by
  obtain ⟨k, h1, h2, h3⟩ := h
  rw [h3]
  have z : ∀ m : Nat, m < 20 → m ≠ k → ¬ nI k = nI m := fun m hm hn he => hn ((nI_eq (by omega) (by omega)).mp he).symm
  exact ⟨z 0 (by omega) (by omega), z 1 (by omega) (by omega), z 2 (by omega) (by omega), z 13 (by omega) (by omega), z 14 (by omega) (by omega)⟩
section
variable {ek ex vs es la : sk_F} {e lc : Nat} {a b c : Int32}
theorem sk_lc_n (h : ¬ ek e = 2) : sk_lc ek e lc = lc := if_neg h
theorem sk_lc_2 (h : ek e = 2) : sk_lc ek e lc = lc + 1 := if_pos h
theorem sk_la_n (h : ¬ ek e = 2) : sk_la ek ex e a lc la = la := if_neg h
theorem sk_la_2 (h : ek e = 2) : sk_la ek ex e a lc la = sk_put 200 lc la (16 + sk_at (ex e) a) := if_pos h
theorem sk_ar_0 (h : ek e = 0) : sk_ar ek e = 0 := by simp [sk_ar, h]
theorem sk_nv_0 (h : ek e = 0) : sk_nv ek ex vs es e a b c = ex e := by simp [sk_nv, h]
theorem sk_n2_0 (h : ek e = 0) : ¬ ek e = 2 := by rw [h]; decide
theorem sk_ar_1 (h : ek e = 1) : sk_ar ek e = 0 := by simp [sk_ar, h]
theorem sk_nv_1 (h : ek e = 1) : sk_nv ek ex vs es e a b c = vs (ex e).toNatClampNeg := by simp [sk_nv, h]
theorem sk_n2_1 (h : ek e = 1) : ¬ ek e = 2 := by rw [h]; decide
theorem sk_ar_2 (h : ek e = 2) : sk_ar ek e = 1 := by simp [sk_ar, h]
theorem sk_nv_2 (h : ek e = 2) : sk_nv ek ex vs es e a b c = es (sk_at (ex e) a).toNatClampNeg := by simp [sk_nv, h]
theorem sk_ar_13 (h : ek e = 13) : sk_ar ek e = 1 := by simp [sk_ar, h]
theorem sk_nv_13 (h : ek e = 13) : sk_nv ek ex vs es e a b c = (a ^^^ (-1)) := by simp [sk_nv, h]
theorem sk_n2_13 (h : ek e = 13) : ¬ ek e = 2 := by rw [h]; decide
theorem sk_ar_14 (h : ek e = 14) : sk_ar ek e = 3 := by simp [sk_ar, h]
theorem sk_nv_14 (h : ek e = 14) : sk_nv ek ex vs es e a b c = (if a = 0 then c else b) := by simp [sk_nv, h]
theorem sk_n2_14 (h : ek e = 14) : ¬ ek e = 2 := by rw [h]; decide
theorem sk_ar_b (h : sk_bin ek e) : sk_ar ek e = 2 := by
  obtain ⟨h0, h1, h2, h3, h4⟩ := sk_bin_ne h
  simp [sk_ar, h0, h1, h2, h3, h4]
theorem sk_nv_b (h : sk_bin ek e) : sk_nv ek ex vs es e a b c = sk_cb (ek e) a b := by
  obtain ⟨h0, h1, h2, h3, h4⟩ := sk_bin_ne h
  simp [sk_nv, h0, h1, h2, h3, h4]
theorem sk_n2_b (h : sk_bin ek e) : ¬ ek e = 2 := (sk_bin_ne h).2.2.1
end
section
variable {M : Nat} {ek ex ey ez ew px py pz od vs es : sk_F}
/-- X's last step of an expression whose parts' values lie on the stack -/
theorem sk_xl {E : Nat} {W : sk_WE} (R : sk_RX M ek ex ew od vs es E W) {n i h lc : Nat} {la vals0 vals : sk_F} {e : Nat} (he : e < M) (hi : od (30 * E + i) = nI e) (hi3 : i < sk_w ew E) (hh : h + sk_ar ek e ≤ 30) (hh3 : h < 30) (hlc : lc < 2 ^ 30)
    {v : Int32} (hv : sk_nv ek ex vs es e (vals h) (vals (h + 1)) (vals (h + 2)) = v) {lc' : Nat} {la' : sk_F} (hc : sk_lc ek e lc = lc') (ha : sk_la ek ex e (vals h) lc la = la')
    (hag : ∀ j, j < h → vals j = vals0 j) {i2 : Nat} (hi2 : i2 = i + 1)
    (C : ∀ vals' : sk_F, (∀ j, j < h → vals' j = vals0 j) → vals' h = v → W n i2 (h + 1) lc' la' vals') : W (n + 1) i (h + sk_ar ek e) lc la vals := by
  refine R n i h lc la vals e he hi hi3 hh hh3 hlc ?_
  rw [hv, hc, ha, ← hi2]
  exact C _ (fun j hj => by rw [pk_un (by omega)]; exact hag j hj) pk_us
theorem sk_segs {E i e p o : Nat} (h : sk_seg ew od (30 * E + i) e) (hp : sk_seg ew od (30 * e + o) p) (ho : o + sk_w ew p ≤ sk_w ew e) : sk_seg ew od (30 * E + (i + o)) p := by
  intro j hj
  rw [← hp j hj]
  have := h (o + j) (by omega)
  rw [← Nat.add_assoc, ← Nat.add_assoc] at this
  rw [← Nat.add_assoc]
  exact this
theorem sk_segl {E i e o : Nat} (h : sk_seg ew od (30 * E + i) e) (hp : od (30 * e + (sk_w ew e - 1)) = nI e) (ho : o + 1 = sk_w ew e) : od (30 * E + (i + o)) = nI e := by
  have := h o (by omega)
  rw [← Nat.add_assoc, this, ← hp]
  congr 2
  omega
/-- a part of an expression in Y's machine: one step to begin, then its own -/
theorem sk_yp {W : sk_WY} (R : sk_RY M ek ex ey ez vs es W) {n k d tp lc lc' : Nat} {la la' wk at' fd : sk_F} {e g g' p : Nat} {v : Int32} (he : e < M) (h1 : wk d = nI e) (h2 : at' d = nI g) (hx : sk_nx ek ex ey ez e g g' p) (hw : 1 ≤ sk_w ew p)
    (hp : sk_EvY M ek ex ey ez ew vs es p lc la v lc' la') (hd : d + 1 + sk_w ew p ≤ 31) (ht : tp + sk_w ew p ≤ 31) (hk : k + 2 * sk_w ew p ≤ 120)
    (C : ∀ wk2 at2 fd2 : sk_F, (∀ j, j < d → wk2 j = wk j ∧ at2 j = at' j) → wk2 d = nI e → at2 d = nI g' → (∀ j, j < tp → fd2 j = fd j) → fd2 tp = v → W n (k + 2 * sk_w ew p) (d + 1) (tp + 1) lc' la' wk2 at2 fd2) :
    W (n + 2 * sk_w ew p) k (d + 1) tp lc la wk at' fd := by
  have e1 : n + 2 * sk_w ew p = (n + (2 * sk_w ew p - 1)) + 1 := by omega
  rw [e1]
  refine R.2 _ k d tp lc la wk at' fd e g g' p he h1 h2 hx (by omega) (by omega) ?_
  intro wk2 at2 a1 a2 a3 a4 a5
  refine hp W R n (k + 1) (d + 1) tp wk2 at2 fd a4 a5 (by omega) (by omega) (by omega) ?_
  intro wk3 at3 fd3 b1 b2 b3
  have e2 : k + 1 + (2 * sk_w ew p - 1) = k + 2 * sk_w ew p := by omega
  rw [e2]
  refine C wk3 at3 fd3 ?_ ?_ ?_ b2 b3
  · intro j hj
    exact ⟨(b1 j (by omega)).1.trans (a1 j (by omega)), (b1 j (by omega)).2.trans (a2 j hj)⟩
  · exact (b1 d (by omega)).1.trans ((a1 d (by omega)).trans h1)
  · exact (b1 d (by omega)).2.trans a3
/-- Y's closing step -/
theorem sk_yl {W : sk_WY} (R : sk_RY M ek ex ey ez vs es W) {n k d tp lc lc' : Nat} {la la' wk0 at0 fd0 wk at' fd : sk_F} {e g : Nat} {v : Int32} (he : e < M) (h1 : wk d = nI e) (h2 : at' d = nI g) (hc : sk_cl ek e g) (hk : k < 120) (hd : d < 31) (ht : tp < 31) (ht2 : tp + sk_ar ek e ≤ 32) (hlc : lc < 2 ^ 30)
    (hv : sk_nv ek ex vs es e (fd tp) (fd (tp + 1)) (fd (tp + 2)) = v) (hlc' : sk_lc ek e lc = lc') (hla : sk_la ek ex e (fd tp) lc la = la')
    (a1 : ∀ j, j < d → wk j = wk0 j ∧ at' j = at0 j) (a2 : ∀ j, j < tp → fd j = fd0 j) {k2 : Nat} (hk2 : k2 = k + 1)
    (C : ∀ wk2 at2 fd2 : sk_F, (∀ j, j < d → wk2 j = wk0 j ∧ at2 j = at0 j) → (∀ j, j < tp → fd2 j = fd0 j) → fd2 tp = v → W n k2 d (tp + 1) lc' la' wk2 at2 fd2) :
    W (n + 1) k (d + 1) (tp + sk_ar ek e) lc la wk at' fd := by
  refine R.1 n k d tp lc la wk at' fd e g he h1 h2 hc hk hd ht ht2 hlc ?_
  intro at2 b1
  rw [hv, hlc', hla, ← hk2]
  exact C _ _ _ (fun j hj => ⟨(a1 j hj).1, (b1 j hj).trans (a1 j hj).2⟩) (fun j hj => by rw [pk_un (by omega)]; exact a2 j hj) pk_us
end
section
variable {M : Nat} {ek ex ey ez ew px py pz od vs es : sk_F}
theorem sk_w1 {e : Nat} (h : sk_node ek ex ey ez ew px py pz od e) : 1 ≤ sk_w ew e := by
  rcases h.2 with h | h | ⟨_, _, _, a, p, h⟩ | ⟨_, _, _, p, h⟩ | ⟨_, p, q, r, h⟩ | ⟨_, _, p, q, h⟩ <;> omega
theorem sk_c0 {e  lc : Nat} {la : sk_F} (he : e < M) (hk : ek e = 0) (hlc : lc + sk_w ew e ≤ 2 ^ 30) (hod : od (30 * e + (sk_w ew e - 1)) = nI e) (hw : sk_w ew e = 1) : sk_EvX M ek ex ew od vs es e lc la (ex e) (lc) la ∧ sk_EvY M ek ex ey ez ew vs es e lc la (ex e) (lc) la := by
  constructor
  · intro E W R n i h vals hs hi hh C
    have e1 : n + sk_w ew e = n + 1 := by omega
    rw [e1]
    have ag : ∀ j, j < h → vals j = vals j := fun _ _ => rfl
    have key := sk_xl R (n := n) (i := i) (h := h) (lc := lc) (la := la) (vals0 := vals) (vals := vals) he (by have z := sk_segl (o := 0) hs hod (by omega); first | exact z | (simpa only [Nat.add_assoc] using z)) (by omega) (by rw [sk_ar_0 hk]; omega) (by omega) (by omega) (v := (ex e)) (by rw [sk_nv_0 hk]) (sk_lc_n (sk_n2_0 hk)) (sk_la_n (sk_n2_0 hk)) ag (i2 := i + sk_w ew e) (by omega) C
    rw [sk_ar_0 hk] at key
    exact key
  · intro W R n k d tp wk at' fd h1 h2 hd ht hkk C
    have e1 : n + (2 * sk_w ew e - 1) = n + 1 := by omega
    rw [e1]
    have ag : ∀ j, j < d → wk j = wk j ∧ at' j = at' j := fun _ _ => ⟨rfl, rfl⟩
    have ag2 : ∀ j, j < tp → fd j = fd j := fun _ _ => rfl
    have key := sk_yl R (n := n) (k := k) (d := d) (tp := tp) (lc := lc) (la := la) (wk0 := wk) (at0 := at') (fd0 := fd) (wk := wk) (at' := at') (fd := fd) he h1 (h2.trans nI_0.symm) (Or.inl ⟨Or.inl hk, rfl⟩) (by omega) (by omega) (by omega) (by rw [sk_ar_0 hk]; omega) (by omega) (v := (ex e)) (by rw [sk_nv_0 hk]) (sk_lc_n (sk_n2_0 hk)) (sk_la_n (sk_n2_0 hk)) ag ag2 (k2 := k + (2 * sk_w ew e - 1)) (by omega) C
    rw [sk_ar_0 hk] at key
    exact key
theorem sk_c1 {e  lc : Nat} {la : sk_F} (he : e < M) (hk : ek e = 1) (hlc : lc + sk_w ew e ≤ 2 ^ 30) (hod : od (30 * e + (sk_w ew e - 1)) = nI e) (hw : sk_w ew e = 1) : sk_EvX M ek ex ew od vs es e lc la (vs (ex e).toNatClampNeg) (lc) la ∧ sk_EvY M ek ex ey ez ew vs es e lc la (vs (ex e).toNatClampNeg) (lc) la := by
  constructor
  · intro E W R n i h vals hs hi hh C
    have e1 : n + sk_w ew e = n + 1 := by omega
    rw [e1]
    have ag : ∀ j, j < h → vals j = vals j := fun _ _ => rfl
    have key := sk_xl R (n := n) (i := i) (h := h) (lc := lc) (la := la) (vals0 := vals) (vals := vals) he (by have z := sk_segl (o := 0) hs hod (by omega); first | exact z | (simpa only [Nat.add_assoc] using z)) (by omega) (by rw [sk_ar_1 hk]; omega) (by omega) (by omega) (v := (vs (ex e).toNatClampNeg)) (by rw [sk_nv_1 hk]) (sk_lc_n (sk_n2_1 hk)) (sk_la_n (sk_n2_1 hk)) ag (i2 := i + sk_w ew e) (by omega) C
    rw [sk_ar_1 hk] at key
    exact key
  · intro W R n k d tp wk at' fd h1 h2 hd ht hkk C
    have e1 : n + (2 * sk_w ew e - 1) = n + 1 := by omega
    rw [e1]
    have ag : ∀ j, j < d → wk j = wk j ∧ at' j = at' j := fun _ _ => ⟨rfl, rfl⟩
    have ag2 : ∀ j, j < tp → fd j = fd j := fun _ _ => rfl
    have key := sk_yl R (n := n) (k := k) (d := d) (tp := tp) (lc := lc) (la := la) (wk0 := wk) (at0 := at') (fd0 := fd) (wk := wk) (at' := at') (fd := fd) he h1 (h2.trans nI_0.symm) (Or.inl ⟨Or.inr hk, rfl⟩) (by omega) (by omega) (by omega) (by rw [sk_ar_1 hk]; omega) (by omega) (v := (vs (ex e).toNatClampNeg)) (by rw [sk_nv_1 hk]) (sk_lc_n (sk_n2_1 hk)) (sk_la_n (sk_n2_1 hk)) ag ag2 (k2 := k + (2 * sk_w ew e - 1)) (by omega) C
    rw [sk_ar_1 hk] at key
    exact key
theorem sk_c2 {e p lc : Nat} {la : sk_F} (he : e < M) (hk : ek e = 2) (hlc : lc + sk_w ew e ≤ 2 ^ 30) (hod : od (30 * e + (sk_w ew e - 1)) = nI e) (hx0 : sk_nx ek ex ey ez e 0 2 p) (w0 : 1 ≤ sk_w ew p) (sg0 : sk_seg ew od (30 * e) p) (hw : sk_w ew e = sk_w ew p + 1) {v0 : Int32} {lc0 : Nat} {la0 : sk_F} (l0 : lc0 ≤ lc + sk_w ew p) (X0 : sk_EvX M ek ex ew od vs es p lc la v0 lc0 la0) (Y0 : sk_EvY M ek ex ey ez ew vs es p lc la v0 lc0 la0) : sk_EvX M ek ex ew od vs es e lc la (es (sk_at (ex e) v0).toNatClampNeg) (lc0 + 1) (sk_put 200 lc0 la0 (16 + sk_at (ex e) v0)) ∧ sk_EvY M ek ex ey ez ew vs es e lc la (es (sk_at (ex e) v0).toNatClampNeg) (lc0 + 1) (sk_put 200 lc0 la0 (16 + sk_at (ex e) v0)) := by
  constructor
  · intro E W R n i h vals hs hi hh C
    have e1 : n + sk_w ew e = n + 1 + sk_w ew p := by omega
    rw [e1]
    refine X0 E W R (n + 1) (i) (h) vals (by have z := sk_segs (o := 0) hs (by first | exact sg0 | (rw [← Nat.add_assoc]; exact sg0)) (by omega); first | exact z | (simpa only [Nat.add_assoc] using z)) (by omega) (by omega) ?_
    intro vals0 a0 b0
    have f0 : vals0 (h) = v0 := b0
    have ag : ∀ j, j < h → vals0 j = vals j := fun j hj => a0 j hj
    have key := sk_xl R (n := n) (i := i + sk_w ew p) (h := h) (lc := lc0) (la := la0) (vals0 := vals) (vals := vals0) he (by have z := sk_segl (o := sk_w ew p) hs hod (by omega); first | exact z | (simpa only [Nat.add_assoc] using z)) (by omega) (by rw [sk_ar_2 hk]; omega) (by omega) (by omega) (v := (es (sk_at (ex e) v0).toNatClampNeg)) (by rw [sk_nv_2 hk, f0]) (sk_lc_2 hk) (by rw [sk_la_2 hk, f0]) ag (i2 := i + sk_w ew e) (by omega) C
    rw [sk_ar_2 hk] at key
    exact key
  · intro W R n k d tp wk at' fd h1 h2 hd ht hkk C
    have e1 : n + (2 * sk_w ew e - 1) = n + 1 + 2 * sk_w ew p := by omega
    rw [e1]
    refine sk_yp R (k := k) (d := d) (tp := tp) he h1 (h2.trans nI_0.symm) hx0 w0 Y0 (by omega) (by omega) (by omega) ?_
    intro wk0 at0 fd0 a0 c0 d0 b0 g0
    have f0 : fd0 (tp) = v0 := g0
    have ag : ∀ j, j < d → wk0 j = wk j ∧ at0 j = at' j := fun j hj => ⟨(a0 j hj).1, (a0 j hj).2⟩
    have ag2 : ∀ j, j < tp → fd0 j = fd j := fun j hj => b0 j hj
    have key := sk_yl R (n := n) (k := k + 2 * sk_w ew p) (d := d) (tp := tp) (lc := lc0) (la := la0) (wk0 := wk) (at0 := at') (fd0 := fd) (wk := wk0) (at' := at0) (fd := fd0) he c0 d0 (Or.inr (Or.inr (Or.inl ⟨hk, rfl⟩))) (by omega) (by omega) (by omega) (by rw [sk_ar_2 hk]; omega) (by omega) (v := (es (sk_at (ex e) v0).toNatClampNeg)) (by rw [sk_nv_2 hk, f0]) (sk_lc_2 hk) (by rw [sk_la_2 hk, f0]) ag ag2 (k2 := k + (2 * sk_w ew e - 1)) (by omega) C
    rw [sk_ar_2 hk] at key
    exact key
theorem sk_c13 {e p lc : Nat} {la : sk_F} (he : e < M) (hk : ek e = 13) (hlc : lc + sk_w ew e ≤ 2 ^ 30) (hod : od (30 * e + (sk_w ew e - 1)) = nI e) (hx0 : sk_nx ek ex ey ez e 0 1 p) (w0 : 1 ≤ sk_w ew p) (sg0 : sk_seg ew od (30 * e) p) (hw : sk_w ew e = sk_w ew p + 1) {v0 : Int32} {lc0 : Nat} {la0 : sk_F} (l0 : lc0 ≤ lc + sk_w ew p) (X0 : sk_EvX M ek ex ew od vs es p lc la v0 lc0 la0) (Y0 : sk_EvY M ek ex ey ez ew vs es p lc la v0 lc0 la0) : sk_EvX M ek ex ew od vs es e lc la (v0 ^^^ (-1)) (lc0) la0 ∧ sk_EvY M ek ex ey ez ew vs es e lc la (v0 ^^^ (-1)) (lc0) la0 := by
  constructor
  · intro E W R n i h vals hs hi hh C
    have e1 : n + sk_w ew e = n + 1 + sk_w ew p := by omega
    rw [e1]
    refine X0 E W R (n + 1) (i) (h) vals (by have z := sk_segs (o := 0) hs (by first | exact sg0 | (rw [← Nat.add_assoc]; exact sg0)) (by omega); first | exact z | (simpa only [Nat.add_assoc] using z)) (by omega) (by omega) ?_
    intro vals0 a0 b0
    have f0 : vals0 (h) = v0 := b0
    have ag : ∀ j, j < h → vals0 j = vals j := fun j hj => a0 j hj
    have key := sk_xl R (n := n) (i := i + sk_w ew p) (h := h) (lc := lc0) (la := la0) (vals0 := vals) (vals := vals0) he (by have z := sk_segl (o := sk_w ew p) hs hod (by omega); first | exact z | (simpa only [Nat.add_assoc] using z)) (by omega) (by rw [sk_ar_13 hk]; omega) (by omega) (by omega) (v := (v0 ^^^ (-1))) (by rw [sk_nv_13 hk, f0]) (sk_lc_n (sk_n2_13 hk)) (sk_la_n (sk_n2_13 hk)) ag (i2 := i + sk_w ew e) (by omega) C
    rw [sk_ar_13 hk] at key
    exact key
  · intro W R n k d tp wk at' fd h1 h2 hd ht hkk C
    have e1 : n + (2 * sk_w ew e - 1) = n + 1 + 2 * sk_w ew p := by omega
    rw [e1]
    refine sk_yp R (k := k) (d := d) (tp := tp) he h1 (h2.trans nI_0.symm) hx0 w0 Y0 (by omega) (by omega) (by omega) ?_
    intro wk0 at0 fd0 a0 c0 d0 b0 g0
    have f0 : fd0 (tp) = v0 := g0
    have ag : ∀ j, j < d → wk0 j = wk j ∧ at0 j = at' j := fun j hj => ⟨(a0 j hj).1, (a0 j hj).2⟩
    have ag2 : ∀ j, j < tp → fd0 j = fd j := fun j hj => b0 j hj
    have key := sk_yl R (n := n) (k := k + 2 * sk_w ew p) (d := d) (tp := tp) (lc := lc0) (la := la0) (wk0 := wk) (at0 := at') (fd0 := fd) (wk := wk0) (at' := at0) (fd := fd0) he c0 d0 (Or.inr (Or.inl ⟨hk, rfl⟩)) (by omega) (by omega) (by omega) (by rw [sk_ar_13 hk]; omega) (by omega) (v := (v0 ^^^ (-1))) (by rw [sk_nv_13 hk, f0]) (sk_lc_n (sk_n2_13 hk)) (sk_la_n (sk_n2_13 hk)) ag ag2 (k2 := k + (2 * sk_w ew e - 1)) (by omega) C
    rw [sk_ar_13 hk] at key
    exact key
theorem sk_c14 {e p q r lc : Nat} {la : sk_F} (he : e < M) (hk : ek e = 14) (hlc : lc + sk_w ew e ≤ 2 ^ 30) (hod : od (30 * e + (sk_w ew e - 1)) = nI e) (hx0 : sk_nx ek ex ey ez e 0 1 p) (w0 : 1 ≤ sk_w ew p) (sg0 : sk_seg ew od (30 * e) p) (hx1 : sk_nx ek ex ey ez e 1 2 q) (w1 : 1 ≤ sk_w ew q) (sg1 : sk_seg ew od (30 * e + sk_w ew p) q) (hx2 : sk_nx ek ex ey ez e 2 3 r) (w2 : 1 ≤ sk_w ew r) (sg2 : sk_seg ew od (30 * e + sk_w ew p + sk_w ew q) r) (hw : sk_w ew e = sk_w ew p + sk_w ew q + sk_w ew r + 1) {v0 : Int32} {lc0 : Nat} {la0 : sk_F} (l0 : lc0 ≤ lc + sk_w ew p) (X0 : sk_EvX M ek ex ew od vs es p lc la v0 lc0 la0) (Y0 : sk_EvY M ek ex ey ez ew vs es p lc la v0 lc0 la0) {v1 : Int32} {lc1 : Nat} {la1 : sk_F} (l1 : lc1 ≤ lc0 + sk_w ew q) (X1 : sk_EvX M ek ex ew od vs es q lc0 la0 v1 lc1 la1) (Y1 : sk_EvY M ek ex ey ez ew vs es q lc0 la0 v1 lc1 la1) {v2 : Int32} {lc2 : Nat} {la2 : sk_F} (l2 : lc2 ≤ lc1 + sk_w ew r) (X2 : sk_EvX M ek ex ew od vs es r lc1 la1 v2 lc2 la2) (Y2 : sk_EvY M ek ex ey ez ew vs es r lc1 la1 v2 lc2 la2) : sk_EvX M ek ex ew od vs es e lc la (if v0 = 0 then v2 else v1) (lc2) la2 ∧ sk_EvY M ek ex ey ez ew vs es e lc la (if v0 = 0 then v2 else v1) (lc2) la2 := by
  constructor
  · intro E W R n i h vals hs hi hh C
    have e1 : n + sk_w ew e = n + 1 + sk_w ew r + sk_w ew q + sk_w ew p := by omega
    rw [e1]
    refine X0 E W R (n + 1 + sk_w ew r + sk_w ew q) (i) (h) vals (by have z := sk_segs (o := 0) hs (by first | exact sg0 | (rw [← Nat.add_assoc]; exact sg0)) (by omega); first | exact z | (simpa only [Nat.add_assoc] using z)) (by omega) (by omega) ?_
    intro vals0 a0 b0
    refine X1 E W R (n + 1 + sk_w ew r) (i + sk_w ew p) (h + 1) vals0 (by have z := sk_segs (o := sk_w ew p) hs (by first | exact sg1 | (rw [← Nat.add_assoc]; exact sg1)) (by omega); first | exact z | (simpa only [Nat.add_assoc] using z)) (by omega) (by omega) ?_
    intro vals1 a1 b1
    refine X2 E W R (n + 1) (i + sk_w ew p + sk_w ew q) (h + 2) vals1 (by have z := sk_segs (o := sk_w ew p + sk_w ew q) hs (by first | exact sg2 | (simpa only [Nat.add_assoc] using sg2)) (by omega); first | exact z | (simpa only [Nat.add_assoc] using z)) (by omega) (by omega) ?_
    intro vals2 a2 b2
    have f0 : vals2 (h) = v0 := (a2 (h) (by omega)).trans ((a1 (h) (by omega)).trans (b0))
    have f1 : vals2 (h + 1) = v1 := (a2 (h + 1) (by omega)).trans (b1)
    have f2 : vals2 (h + 2) = v2 := b2
    have ag : ∀ j, j < h → vals2 j = vals j := fun j hj => (a2 j (by omega)).trans ((a1 j (by omega)).trans (a0 j hj))
    have key := sk_xl R (n := n) (i := i + sk_w ew p + sk_w ew q + sk_w ew r) (h := h) (lc := lc2) (la := la2) (vals0 := vals) (vals := vals2) he (by have z := sk_segl (o := sk_w ew p + sk_w ew q + sk_w ew r) hs hod (by omega); first | exact z | (simpa only [Nat.add_assoc] using z)) (by omega) (by rw [sk_ar_14 hk]; omega) (by omega) (by omega) (v := (if v0 = 0 then v2 else v1)) (by rw [sk_nv_14 hk, f0, f1, f2]) (sk_lc_n (sk_n2_14 hk)) (sk_la_n (sk_n2_14 hk)) ag (i2 := i + sk_w ew e) (by omega) C
    rw [sk_ar_14 hk] at key
    exact key
  · intro W R n k d tp wk at' fd h1 h2 hd ht hkk C
    have e1 : n + (2 * sk_w ew e - 1) = n + 1 + 2 * sk_w ew r + 2 * sk_w ew q + 2 * sk_w ew p := by omega
    rw [e1]
    refine sk_yp R (k := k) (d := d) (tp := tp) he h1 (h2.trans nI_0.symm) hx0 w0 Y0 (by omega) (by omega) (by omega) ?_
    intro wk0 at0 fd0 a0 c0 d0 b0 g0
    refine sk_yp R (k := k + 2 * sk_w ew p) (d := d) (tp := tp + 1) he c0 d0 hx1 w1 Y1 (by omega) (by omega) (by omega) ?_
    intro wk1 at1 fd1 a1 c1 d1 b1 g1
    refine sk_yp R (k := k + 2 * sk_w ew p + 2 * sk_w ew q) (d := d) (tp := tp + 2) he c1 d1 hx2 w2 Y2 (by omega) (by omega) (by omega) ?_
    intro wk2 at2 fd2 a2 c2 d2 b2 g2
    have f0 : fd2 (tp) = v0 := (b2 (tp) (by omega)).trans ((b1 (tp) (by omega)).trans (g0))
    have f1 : fd2 (tp + 1) = v1 := (b2 (tp + 1) (by omega)).trans (g1)
    have f2 : fd2 (tp + 2) = v2 := g2
    have ag : ∀ j, j < d → wk2 j = wk j ∧ at2 j = at' j := fun j hj => ⟨(a2 j hj).1.trans ((a1 j hj).1.trans ((a0 j hj).1)), (a2 j hj).2.trans ((a1 j hj).2.trans ((a0 j hj).2))⟩
    have ag2 : ∀ j, j < tp → fd2 j = fd j := fun j hj => (b2 j (by omega)).trans ((b1 j (by omega)).trans (b0 j hj))
    have key := sk_yl R (n := n) (k := k + 2 * sk_w ew p + 2 * sk_w ew q + 2 * sk_w ew r) (d := d) (tp := tp) (lc := lc2) (la := la2) (wk0 := wk) (at0 := at') (fd0 := fd) (wk := wk2) (at' := at2) (fd := fd2) he c2 d2 (Or.inr (Or.inr (Or.inr (Or.inr ⟨hk, rfl⟩)))) (by omega) (by omega) (by omega) (by rw [sk_ar_14 hk]; omega) (by omega) (v := (if v0 = 0 then v2 else v1)) (by rw [sk_nv_14 hk, f0, f1, f2]) (sk_lc_n (sk_n2_14 hk)) (sk_la_n (sk_n2_14 hk)) ag ag2 (k2 := k + (2 * sk_w ew e - 1)) (by omega) C
    rw [sk_ar_14 hk] at key
    exact key
theorem sk_cbn {e p q lc : Nat} {la : sk_F} (he : e < M) (hk : sk_bin ek e) (hlc : lc + sk_w ew e ≤ 2 ^ 30) (hod : od (30 * e + (sk_w ew e - 1)) = nI e) (hx0 : sk_nx ek ex ey ez e 0 1 p) (w0 : 1 ≤ sk_w ew p) (sg0 : sk_seg ew od (30 * e) p) (hx1 : sk_nx ek ex ey ez e 1 2 q) (w1 : 1 ≤ sk_w ew q) (sg1 : sk_seg ew od (30 * e + sk_w ew p) q) (hw : sk_w ew e = sk_w ew p + sk_w ew q + 1) {v0 : Int32} {lc0 : Nat} {la0 : sk_F} (l0 : lc0 ≤ lc + sk_w ew p) (X0 : sk_EvX M ek ex ew od vs es p lc la v0 lc0 la0) (Y0 : sk_EvY M ek ex ey ez ew vs es p lc la v0 lc0 la0) {v1 : Int32} {lc1 : Nat} {la1 : sk_F} (l1 : lc1 ≤ lc0 + sk_w ew q) (X1 : sk_EvX M ek ex ew od vs es q lc0 la0 v1 lc1 la1) (Y1 : sk_EvY M ek ex ey ez ew vs es q lc0 la0 v1 lc1 la1) : sk_EvX M ek ex ew od vs es e lc la (sk_cb (ek e) v0 v1) (lc1) la1 ∧ sk_EvY M ek ex ey ez ew vs es e lc la (sk_cb (ek e) v0 v1) (lc1) la1 := by
  constructor
  · intro E W R n i h vals hs hi hh C
    have e1 : n + sk_w ew e = n + 1 + sk_w ew q + sk_w ew p := by omega
    rw [e1]
    refine X0 E W R (n + 1 + sk_w ew q) (i) (h) vals (by have z := sk_segs (o := 0) hs (by first | exact sg0 | (rw [← Nat.add_assoc]; exact sg0)) (by omega); first | exact z | (simpa only [Nat.add_assoc] using z)) (by omega) (by omega) ?_
    intro vals0 a0 b0
    refine X1 E W R (n + 1) (i + sk_w ew p) (h + 1) vals0 (by have z := sk_segs (o := sk_w ew p) hs (by first | exact sg1 | (rw [← Nat.add_assoc]; exact sg1)) (by omega); first | exact z | (simpa only [Nat.add_assoc] using z)) (by omega) (by omega) ?_
    intro vals1 a1 b1
    have f0 : vals1 (h) = v0 := (a1 (h) (by omega)).trans (b0)
    have f1 : vals1 (h + 1) = v1 := b1
    have ag : ∀ j, j < h → vals1 j = vals j := fun j hj => (a1 j (by omega)).trans (a0 j hj)
    have key := sk_xl R (n := n) (i := i + sk_w ew p + sk_w ew q) (h := h) (lc := lc1) (la := la1) (vals0 := vals) (vals := vals1) he (by have z := sk_segl (o := sk_w ew p + sk_w ew q) hs hod (by omega); first | exact z | (simpa only [Nat.add_assoc] using z)) (by omega) (by rw [sk_ar_b hk]; omega) (by omega) (by omega) (v := (sk_cb (ek e) v0 v1)) (by rw [sk_nv_b hk, f0, f1]) (sk_lc_n (sk_n2_b hk)) (sk_la_n (sk_n2_b hk)) ag (i2 := i + sk_w ew e) (by omega) C
    rw [sk_ar_b hk] at key
    exact key
  · intro W R n k d tp wk at' fd h1 h2 hd ht hkk C
    have e1 : n + (2 * sk_w ew e - 1) = n + 1 + 2 * sk_w ew q + 2 * sk_w ew p := by omega
    rw [e1]
    refine sk_yp R (k := k) (d := d) (tp := tp) he h1 (h2.trans nI_0.symm) hx0 w0 Y0 (by omega) (by omega) (by omega) ?_
    intro wk0 at0 fd0 a0 c0 d0 b0 g0
    refine sk_yp R (k := k + 2 * sk_w ew p) (d := d) (tp := tp + 1) he c0 d0 hx1 w1 Y1 (by omega) (by omega) (by omega) ?_
    intro wk1 at1 fd1 a1 c1 d1 b1 g1
    have f0 : fd1 (tp) = v0 := (b1 (tp) (by omega)).trans (g0)
    have f1 : fd1 (tp + 1) = v1 := g1
    have ag : ∀ j, j < d → wk1 j = wk j ∧ at1 j = at' j := fun j hj => ⟨(a1 j hj).1.trans ((a0 j hj).1), (a1 j hj).2.trans ((a0 j hj).2)⟩
    have ag2 : ∀ j, j < tp → fd1 j = fd j := fun j hj => (b1 j (by omega)).trans (b0 j hj)
    have key := sk_yl R (n := n) (k := k + 2 * sk_w ew p + 2 * sk_w ew q) (d := d) (tp := tp) (lc := lc1) (la := la1) (wk0 := wk) (at0 := at') (fd0 := fd) (wk := wk1) (at' := at1) (fd := fd1) he c1 d1 (Or.inr (Or.inr (Or.inr (Or.inl ⟨hk, rfl⟩)))) (by omega) (by omega) (by omega) (by rw [sk_ar_b hk]; omega) (by omega) (v := (sk_cb (ek e) v0 v1)) (by rw [sk_nv_b hk, f0, f1]) (sk_lc_n (sk_n2_b hk)) (sk_la_n (sk_n2_b hk)) ag ag2 (k2 := k + (2 * sk_w ew e - 1)) (by omega) C
    rw [sk_ar_b hk] at key
    exact key
/-- every expression has one value and one list of leaks, on both machines -/
theorem sk_E_all (H : ∀ e, e < M → sk_node ek ex ey ez ew px py pz od e) : ∀ e, e < M → ∀ (lc : Nat) (la : sk_F), lc + sk_w ew e ≤ 2 ^ 30 →
    ∃ (v : Int32) (lc' : Nat) (la' : sk_F), lc' ≤ lc + sk_w ew e ∧ sk_EvX M ek ex ew od vs es e lc la v lc' la' ∧ sk_EvY M ek ex ey ez ew vs es e lc la v lc' la' := by
  intro e
  induction e using Nat.strongRecOn with
  | ind e ih =>
    intro he lc la hlc
    obtain ⟨⟨_, hw30, hod⟩, hc⟩ := H e he
    rcases hc with ⟨hk, hw, _⟩ | ⟨hk, hw, _⟩ | ⟨hk, _, _, a, p, ha, hp, x1, x2, _, hw, s0⟩ | ⟨hk, _, _, p, hp, x1, _, hw, s0⟩ | ⟨hk, p, q, r, hp, hq, hr, x1, x2, x3, _, _, _, hw, s0, s1, s2⟩ | ⟨hk, _, p, q, hp, hq, x1, x2, _, _, hw, s0, s1⟩
    · exact ⟨_, _, _, by omega, sk_c0 he hk hlc hod hw⟩
    · exact ⟨_, _, _, by omega, sk_c1 he hk hlc hod hw⟩
    · obtain ⟨v0, lc0, la0, l0, X0, Y0⟩ := ih p hp (by omega) lc la (by omega)
      exact ⟨_, lc0 + 1, _, by omega, sk_c2 he hk hlc hod (Or.inl ⟨hk, rfl, rfl, x2⟩) (sk_w1 (H p (by omega))) s0 hw l0 X0 Y0⟩
    · obtain ⟨v0, lc0, la0, l0, X0, Y0⟩ := ih p hp (by omega) lc la (by omega)
      exact ⟨_, lc0, _, by omega, sk_c13 he hk hlc hod (Or.inr (Or.inl ⟨Or.inl hk, rfl, rfl, x1⟩)) (sk_w1 (H p (by omega))) s0 hw l0 X0 Y0⟩
    · obtain ⟨v0, lc0, la0, l0, X0, Y0⟩ := ih p hp (by omega) lc la (by omega)
      obtain ⟨v1, lc1, la1, l1, X1, Y1⟩ := ih q hq (by omega) lc0 la0 (by omega)
      obtain ⟨v2, lc2, la2, l2, X2, Y2⟩ := ih r hr (by omega) lc1 la1 (by omega)
      exact ⟨_, lc2, _, by omega, sk_c14 he hk hlc hod (Or.inr (Or.inl ⟨Or.inr (Or.inl hk), rfl, rfl, x1⟩)) (sk_w1 (H p (by omega))) s0 (Or.inr (Or.inr (Or.inl ⟨Or.inl hk, rfl, rfl, x2⟩))) (sk_w1 (H q (by omega))) s1 (Or.inr (Or.inr (Or.inr ⟨hk, rfl, rfl, x3⟩))) (sk_w1 (H r (by omega))) s2 hw l0 X0 Y0 l1 X1 Y1 l2 X2 Y2⟩
    · obtain ⟨v0, lc0, la0, l0, X0, Y0⟩ := ih p hp (by omega) lc la (by omega)
      obtain ⟨v1, lc1, la1, l1, X1, Y1⟩ := ih q hq (by omega) lc0 la0 (by omega)
      exact ⟨_, lc1, _, by omega, sk_cbn he hk hlc hod (Or.inr (Or.inl ⟨Or.inr (Or.inr hk), rfl, rfl, x1⟩)) (sk_w1 (H p (by omega))) s0 (Or.inr (Or.inr (Or.inl ⟨Or.inr hk, rfl, rfl, x2⟩))) (sk_w1 (H q (by omega))) s1 hw l0 X0 Y0 l1 X1 Y1⟩
end
end
section
/-! 03: statements: rules of one step of X's run and of Y's, and what both do with a statement -/
def sk_stk (ps pt pr : sk_F) (b s t : Nat) (r : Bool) : Prop := ps b = nI s ∧ pt b = nI t ∧ pr b = sk_bI r
def sk_ag (b : Nat) (ps pt pr ps' pt' pr' : sk_F) : Prop := ∀ j, j < b → ps' j = ps j ∧ pt' j = pt j ∧ pr' j = pr j
def sk_a4 (b : Nat) (dg st rl ch dg' st' rl' ch' : sk_F) : Prop := ∀ j, j < b → dg' j = dg j ∧ st' j = st j ∧ rl' j = rl j ∧ ch' j = ch j
theorem sk_ag_tr {b b2 : Nat} {ps pt pr ps' pt' pr' ps2 pt2 pr2 : sk_F} (h : sk_ag b ps pt pr ps' pt' pr') (h2 : sk_ag b2 ps' pt' pr' ps2 pt2 pr2) (hb : b ≤ b2) : sk_ag b ps pt pr ps2 pt2 pr2 :=
  fun j hj => ⟨(h2 j (by omega)).1.trans (h j hj).1, (h2 j (by omega)).2.1.trans (h j hj).2.1, (h2 j (by omega)).2.2.trans (h j hj).2.2⟩
theorem sk_a4_tr {b b2 : Nat} {ps pt pr pu ps' pt' pr' pu' ps2 pt2 pr2 pu2 : sk_F} (h : sk_a4 b ps pt pr pu ps' pt' pr' pu') (h2 : sk_a4 b2 ps' pt' pr' pu' ps2 pt2 pr2 pu2) (hb : b ≤ b2) : sk_a4 b ps pt pr pu ps2 pt2 pr2 pu2 :=
  fun j hj => ⟨(h2 j (by omega)).1.trans (h j hj).1, (h2 j (by omega)).2.1.trans (h j hj).2.1, (h2 j (by omega)).2.2.1.trans (h j hj).2.2.1, (h2 j (by omega)).2.2.2.trans (h j hj).2.2.2⟩
theorem sk_stk_ag {b b2 s t : Nat} {r : Bool} {ps pt pr ps' pt' pr' : sk_F} (h : sk_stk ps pt pr b s t r) (h2 : sk_ag b2 ps pt pr ps' pt' pr') (hb : b < b2) : sk_stk ps' pt' pr' b s t r :=
  ⟨(h2 b hb).1.trans h.1, (h2 b hb).2.1.trans h.2.1, (h2 b hb).2.2.trans h.2.2⟩
theorem sk_stk_a4 {b b2 s t : Nat} {r : Bool} {ps pt pr pu ps' pt' pr' pu' : sk_F} (h : sk_stk ps pt pr b s t r) (h2 : sk_a4 b2 ps pt pr pu ps' pt' pr' pu') (hb : b < b2) : sk_stk ps' pt' pr' b s t r :=
  ⟨(h2 b hb).1.trans h.1, (h2 b hb).2.1.trans h.2.1, (h2 b hb).2.2.1.trans h.2.2⟩
abbrev sk_WS : Type := Nat → Nat → Nat → sk_F → sk_F → Nat → sk_F → Nat → sk_F → sk_F → sk_F → sk_F → Prop
abbrev sk_WT : Type := Nat → Nat → Nat → sk_F → sk_F → Nat → sk_F → Nat → sk_F → sk_F → sk_F → sk_F → sk_F → Prop
section
variable (M N : Nat) (ek ex ey ez ew od sec sk sx sy sz : sk_F)
def sk_rx0 (W : sk_WS) : Prop := ∀ (n step b : Nat) (vs es : sk_F) (lc : Nat) (la : sk_F) (pc : Nat) (pa : sk_F) (ps pt pr : sk_F) (s t : Nat) (r : Bool) (x p : Nat) (v : Int32) (lc' : Nat) (la' : sk_F),
  s < N → step < 1000000 → b < 30 → sk_stk ps pt pr b s t r → sk s = 0 → x < 8 → sx s = nI x → p < M → sy s = nI p → sk_EvX M ek ex ew od vs es p lc la v lc' la' → W n (step + 1) b (if r then upd vs x v else vs) es lc' la' pc pa ps pt pr → W (n + 1) step (b + 1) vs es lc la pc pa ps pt pr
def sk_rx1 (W : sk_WS) : Prop := ∀ (n step b : Nat) (vs es : sk_F) (lc : Nat) (la : sk_F) (pc : Nat) (pa : sk_F) (ps pt pr : sk_F) (s t : Nat) (r : Bool) (a p q : Nat) (i : Int32) (lc1 : Nat) (la1 : sk_F) (v : Int32) (lc' : Nat) (la' : sk_F),
  s < N → step < 1000000 → b < 30 → sk_stk ps pt pr b s t r → sk s = 1 → a < 2 → sx s = nI a → p < M → sy s = nI p → q < M → sz s = nI q → sk_EvX M ek ex ew od vs es p lc la i lc1 la1 → sk_EvX M ek ex ew od vs es q lc1 la1 v lc' la' → lc' < 2 ^ 30 → W n (step + 1) b vs (if r then upd es (sk_at (nI a) i).toNatClampNeg v else es) (lc' + 1) (sk_put 200 lc' la' (32 + sk_at (nI a) i)) pc pa ps pt pr → W (n + 1) step (b + 1) vs es lc la pc pa ps pt pr
def sk_rx2 (W : sk_WS) : Prop := ∀ (n step b : Nat) (vs es : sk_F) (lc : Nat) (la : sk_F) (pc : Nat) (pa : sk_F) (ps pt pr : sk_F) (s t : Nat) (r : Bool) (p q : Nat),
  s < N → step < 1000000 → b < 30 → sk_stk ps pt pr b s t r → sk s = 2 → p < N → sx s = nI p → q < N → sy s = nI q → b + 1 < 30 → (∀ ps' pt' pr' : sk_F, sk_ag b ps pt pr ps' pt' pr' → sk_stk ps' pt' pr' b q 0 r → sk_stk ps' pt' pr' (b + 1) p 0 r → W n (step + 1) (b + 2) vs es lc la pc pa ps' pt' pr') → W (n + 1) step (b + 1) vs es lc la pc pa ps pt pr
def sk_rx3a (W : sk_WS) : Prop := ∀ (n step b : Nat) (vs es : sk_F) (lc : Nat) (la : sk_F) (pc : Nat) (pa : sk_F) (ps pt pr : sk_F) (s t : Nat) (r : Bool) (p q : Nat) (v : Int32) (lc' : Nat) (la' : sk_F),
  s < N → step < 1000000 → b < 30 → sk_stk ps pt pr b s t r → sk s = 3 → p < M → sx s = nI p → q < N → sy s = nI q → sk_EvX M ek ex ew od vs es p lc la v lc' la' → ¬ sec p = 0 → sz s = -1 → (∀ ps' pt' pr' : sk_F, sk_ag b ps pt pr ps' pt' pr' → sk_stk ps' pt' pr' b q 0 (r && decide (¬ v = 0)) → W n (step + 1) (b + 1) vs es lc' la' pc pa ps' pt' pr') → W (n + 1) step (b + 1) vs es lc la pc pa ps pt pr
def sk_rx3b (W : sk_WS) : Prop := ∀ (n step b : Nat) (vs es : sk_F) (lc : Nat) (la : sk_F) (pc : Nat) (pa : sk_F) (ps pt pr : sk_F) (s t : Nat) (r : Bool) (p q z : Nat) (v : Int32) (lc' : Nat) (la' : sk_F),
  s < N → step < 1000000 → b < 30 → sk_stk ps pt pr b s t r → sk s = 3 → p < M → sx s = nI p → q < N → sy s = nI q → sk_EvX M ek ex ew od vs es p lc la v lc' la' → ¬ sec p = 0 → z < N → sz s = nI z → b + 1 < 30 → (∀ ps' pt' pr' : sk_F, sk_ag b ps pt pr ps' pt' pr' → sk_stk ps' pt' pr' b z 0 (r && decide (v = 0)) → sk_stk ps' pt' pr' (b + 1) q 0 (r && decide (¬ v = 0)) → W n (step + 1) (b + 2) vs es lc' la' pc pa ps' pt' pr') → W (n + 1) step (b + 1) vs es lc la pc pa ps pt pr
def sk_rx3c (W : sk_WS) : Prop := ∀ (n step b : Nat) (vs es : sk_F) (lc : Nat) (la : sk_F) (pc : Nat) (pa : sk_F) (ps pt pr : sk_F) (s t : Nat) (r : Bool) (p q : Nat) (v : Int32) (lc' : Nat) (la' : sk_F),
  s < N → step < 1000000 → b < 30 → sk_stk ps pt pr b s t r → sk s = 3 → p < M → sx s = nI p → q < N → sy s = nI q → sk_EvX M ek ex ew od vs es p lc la v lc' la' → sec p = 0 → ¬ v = 0 → lc' < 2 ^ 30 → (∀ ps' pt' pr' : sk_F, sk_ag b ps pt pr ps' pt' pr' → sk_stk ps' pt' pr' b q 0 r → W n (step + 1) (b + 1) vs es (lc' + 1) (sk_put 200 lc' la' 1) pc pa ps' pt' pr') → W (n + 1) step (b + 1) vs es lc la pc pa ps pt pr
def sk_rx3d (W : sk_WS) : Prop := ∀ (n step b : Nat) (vs es : sk_F) (lc : Nat) (la : sk_F) (pc : Nat) (pa : sk_F) (ps pt pr : sk_F) (s t : Nat) (r : Bool) (p q : Nat) (v : Int32) (lc' : Nat) (la' : sk_F),
  s < N → step < 1000000 → b < 30 → sk_stk ps pt pr b s t r → sk s = 3 → p < M → sx s = nI p → q < N → sy s = nI q → sk_EvX M ek ex ew od vs es p lc la v lc' la' → sec p = 0 → v = 0 → sz s = -1 → lc' < 2 ^ 30 → W n (step + 1) b vs es (lc' + 1) (sk_put 200 lc' la' 0) pc pa ps pt pr → W (n + 1) step (b + 1) vs es lc la pc pa ps pt pr
def sk_rx3e (W : sk_WS) : Prop := ∀ (n step b : Nat) (vs es : sk_F) (lc : Nat) (la : sk_F) (pc : Nat) (pa : sk_F) (ps pt pr : sk_F) (s t : Nat) (r : Bool) (p q z : Nat) (v : Int32) (lc' : Nat) (la' : sk_F),
  s < N → step < 1000000 → b < 30 → sk_stk ps pt pr b s t r → sk s = 3 → p < M → sx s = nI p → q < N → sy s = nI q → sk_EvX M ek ex ew od vs es p lc la v lc' la' → sec p = 0 → v = 0 → z < N → sz s = nI z → lc' < 2 ^ 30 → (∀ ps' pt' pr' : sk_F, sk_ag b ps pt pr ps' pt' pr' → sk_stk ps' pt' pr' b z 0 r → W n (step + 1) (b + 1) vs es (lc' + 1) (sk_put 200 lc' la' 0) pc pa ps' pt' pr') → W (n + 1) step (b + 1) vs es lc la pc pa ps pt pr
def sk_rx4a (W : sk_WS) : Prop := ∀ (n step b : Nat) (vs es : sk_F) (lc : Nat) (la : sk_F) (pc : Nat) (pa : sk_F) (ps pt pr : sk_F) (s t : Nat) (r : Bool) (x q : Nat),
  s < N → step < 1000000 → b < 30 → sk_stk ps pt pr b s t r → sk s = 4 → x ≤ 6 → sx s = nI x → q < N → sy s = nI q → t < x → b + 1 < 30 → (∀ ps' pt' pr' : sk_F, sk_ag b ps pt pr ps' pt' pr' → sk_stk ps' pt' pr' b s (t + 1) r → sk_stk ps' pt' pr' (b + 1) q 0 r → W n (step + 1) (b + 2) vs es lc la pc pa ps' pt' pr') → W (n + 1) step (b + 1) vs es lc la pc pa ps pt pr
def sk_rx4b (W : sk_WS) : Prop := ∀ (n step b : Nat) (vs es : sk_F) (lc : Nat) (la : sk_F) (pc : Nat) (pa : sk_F) (ps pt pr : sk_F) (s t : Nat) (r : Bool) (x : Nat),
  s < N → step < 1000000 → b < 30 → sk_stk ps pt pr b s t r → sk s = 4 → x ≤ 6 → sx s = nI x → t = x → W n (step + 1) b vs es lc la pc pa ps pt pr → W (n + 1) step (b + 1) vs es lc la pc pa ps pt pr
def sk_rx5a (W : sk_WS) : Prop := ∀ (n step b : Nat) (vs es : sk_F) (lc : Nat) (la : sk_F) (pc : Nat) (pa : sk_F) (ps pt pr : sk_F) (s t : Nat) (r : Bool) (p q : Nat) (v : Int32) (lc' : Nat) (la' : sk_F),
  s < N → step < 1000000 → b < 30 → sk_stk ps pt pr b s t r → sk s = 5 → p < M → sx s = nI p → t < 6 → sk_EvX M ek ex ew od vs es p lc la v lc' la' → lc' < 2 ^ 30 → q < N → sy s = nI q → ¬ v = 0 → b + 1 < 30 → (∀ ps' pt' pr' : sk_F, sk_ag b ps pt pr ps' pt' pr' → sk_stk ps' pt' pr' b s (t + 1) r → sk_stk ps' pt' pr' (b + 1) q 0 r → W n (step + 1) (b + 2) vs es (lc' + 1) (sk_put 200 lc' la' 3) pc pa ps' pt' pr') → W (n + 1) step (b + 1) vs es lc la pc pa ps pt pr
def sk_rx5b (W : sk_WS) : Prop := ∀ (n step b : Nat) (vs es : sk_F) (lc : Nat) (la : sk_F) (pc : Nat) (pa : sk_F) (ps pt pr : sk_F) (s t : Nat) (r : Bool) (p : Nat) (v : Int32) (lc' : Nat) (la' : sk_F),
  s < N → step < 1000000 → b < 30 → sk_stk ps pt pr b s t r → sk s = 5 → p < M → sx s = nI p → t < 6 → sk_EvX M ek ex ew od vs es p lc la v lc' la' → lc' < 2 ^ 30 → v = 0 → W n (step + 1) b vs es (lc' + 1) (sk_put 200 lc' la' 2) pc pa ps pt pr → W (n + 1) step (b + 1) vs es lc la pc pa ps pt pr
def sk_rx5c (W : sk_WS) : Prop := ∀ (n step b : Nat) (vs es : sk_F) (lc : Nat) (la : sk_F) (pc : Nat) (pa : sk_F) (ps pt pr : sk_F) (s t : Nat) (r : Bool),
  s < N → step < 1000000 → b < 30 → sk_stk ps pt pr b s t r → sk s = 5 → t = 6 → W n (step + 1) b vs es lc la pc pa ps pt pr → W (n + 1) step (b + 1) vs es lc la pc pa ps pt pr
def sk_rx6 (W : sk_WS) : Prop := ∀ (n step b : Nat) (vs es : sk_F) (lc : Nat) (la : sk_F) (pc : Nat) (pa : sk_F) (ps pt pr : sk_F) (s t : Nat) (r : Bool) (p : Nat) (v : Int32) (lc' : Nat) (la' : sk_F),
  s < N → step < 1000000 → b < 30 → sk_stk ps pt pr b s t r → sk s = 6 → p < M → sx s = nI p → sk_EvX M ek ex ew od vs es p lc la v lc' la' → r = true → pc < 2 ^ 30 → W n (step + 1) b vs es lc' la' (pc + 1) (sk_put 20 pc pa v) ps pt pr → W (n + 1) step (b + 1) vs es lc la pc pa ps pt pr
def sk_ry0 (W : sk_WT) : Prop := ∀ (n k b : Nat) (vs es : sk_F) (lc : Nat) (la : sk_F) (pc : Nat) (pa : sk_F) (dg st rl ch : sk_F) (s g : Nat) (r : Bool) (x p : Nat) (v : Int32) (lc' : Nat) (la' : sk_F),
  s < N → k < 60000 → b < 31 → sk_stk dg st rl b s g r → sk s = 0 → x < 8 → sx s = nI x → p < M → sy s = nI p → sk_EvY M ek ex ey ez ew vs es p lc la v lc' la' → (∀ dg' st' rl' ch' : sk_F, sk_a4 b dg st rl ch dg' st' rl' ch' → W n (k + 1) b (if r then upd vs x v else vs) es lc' la' pc pa dg' st' rl' ch') → W (n + 1) k (b + 1) vs es lc la pc pa dg st rl ch
def sk_ry1 (W : sk_WT) : Prop := ∀ (n k b : Nat) (vs es : sk_F) (lc : Nat) (la : sk_F) (pc : Nat) (pa : sk_F) (dg st rl ch : sk_F) (s g : Nat) (r : Bool) (a p q : Nat) (i : Int32) (lc1 : Nat) (la1 : sk_F) (v : Int32) (lc' : Nat) (la' : sk_F),
  s < N → k < 60000 → b < 31 → sk_stk dg st rl b s g r → sk s = 1 → a < 2 → sx s = nI a → p < M → sy s = nI p → q < M → sz s = nI q → sk_EvY M ek ex ey ez ew vs es p lc la i lc1 la1 → sk_EvY M ek ex ey ez ew vs es q lc1 la1 v lc' la' → lc' < 2 ^ 30 → (∀ dg' st' rl' ch' : sk_F, sk_a4 b dg st rl ch dg' st' rl' ch' → W n (k + 1) b vs (if r then upd es (sk_at (nI a) i).toNatClampNeg v else es) (lc' + 1) (sk_put 200 lc' la' (32 + sk_at (nI a) i)) pc pa dg' st' rl' ch') → W (n + 1) k (b + 1) vs es lc la pc pa dg st rl ch
def sk_ry2a (W : sk_WT) : Prop := ∀ (n k b : Nat) (vs es : sk_F) (lc : Nat) (la : sk_F) (pc : Nat) (pa : sk_F) (dg st rl ch : sk_F) (s g : Nat) (r : Bool) (p : Nat),
  s < N → k < 60000 → b < 31 → sk_stk dg st rl b s g r → sk s = 2 → p < N → sx s = nI p → g = 0 → (∀ dg' st' rl' ch' : sk_F, sk_a4 b dg st rl ch dg' st' rl' ch' → sk_stk dg' st' rl' b s (g + 1) r → sk_stk dg' st' rl' (b + 1) p 0 r → W n (k + 1) (b + 2) vs es lc la pc pa dg' st' rl' ch') → W (n + 1) k (b + 1) vs es lc la pc pa dg st rl ch
def sk_ry2b (W : sk_WT) : Prop := ∀ (n k b : Nat) (vs es : sk_F) (lc : Nat) (la : sk_F) (pc : Nat) (pa : sk_F) (dg st rl ch : sk_F) (s g : Nat) (r : Bool) (q : Nat),
  s < N → k < 60000 → b < 31 → sk_stk dg st rl b s g r → sk s = 2 → q < N → sy s = nI q → g = 1 → (∀ dg' st' rl' ch' : sk_F, sk_a4 b dg st rl ch dg' st' rl' ch' → sk_stk dg' st' rl' b s (g + 1) r → sk_stk dg' st' rl' (b + 1) q 0 r → W n (k + 1) (b + 2) vs es lc la pc pa dg' st' rl' ch') → W (n + 1) k (b + 1) vs es lc la pc pa dg st rl ch
def sk_ry2c (W : sk_WT) : Prop := ∀ (n k b : Nat) (vs es : sk_F) (lc : Nat) (la : sk_F) (pc : Nat) (pa : sk_F) (dg st rl ch : sk_F) (s g : Nat) (r : Bool),
  s < N → k < 60000 → b < 31 → sk_stk dg st rl b s g r → sk s = 2 → g = 2 → (∀ dg' st' rl' ch' : sk_F, sk_a4 b dg st rl ch dg' st' rl' ch' → W n (k + 1) b vs es lc la pc pa dg' st' rl' ch') → W (n + 1) k (b + 1) vs es lc la pc pa dg st rl ch
def sk_ry3a (W : sk_WT) : Prop := ∀ (n k b : Nat) (vs es : sk_F) (lc : Nat) (la : sk_F) (pc : Nat) (pa : sk_F) (dg st rl ch : sk_F) (s g : Nat) (r : Bool) (p q : Nat) (v : Int32) (lc' : Nat) (la' : sk_F),
  s < N → k < 60000 → b < 31 → sk_stk dg st rl b s g r → sk s = 3 → g = 0 → p < M → sx s = nI p → q < N → sy s = nI q → sk_EvY M ek ex ey ez ew vs es p lc la v lc' la' → ¬ sec p = 0 → (∀ dg' st' rl' ch' : sk_F, sk_a4 b dg st rl ch dg' st' rl' ch' → sk_stk dg' st' rl' b s (g + 1) r → ch' b = sk_bI (decide (¬ v = 0)) → sk_stk dg' st' rl' (b + 1) q 0 (r && decide (¬ v = 0)) → W n (k + 1) (b + 2) vs es lc' la' pc pa dg' st' rl' ch') → W (n + 1) k (b + 1) vs es lc la pc pa dg st rl ch
def sk_ry3b (W : sk_WT) : Prop := ∀ (n k b : Nat) (vs es : sk_F) (lc : Nat) (la : sk_F) (pc : Nat) (pa : sk_F) (dg st rl ch : sk_F) (s g : Nat) (r : Bool) (p q : Nat) (v : Int32) (lc' : Nat) (la' : sk_F),
  s < N → k < 60000 → b < 31 → sk_stk dg st rl b s g r → sk s = 3 → g = 0 → p < M → sx s = nI p → q < N → sy s = nI q → sk_EvY M ek ex ey ez ew vs es p lc la v lc' la' → sec p = 0 → ¬ v = 0 → lc' < 2 ^ 30 → (∀ dg' st' rl' ch' : sk_F, sk_a4 b dg st rl ch dg' st' rl' ch' → sk_stk dg' st' rl' b s (g + 1) r → ch' b = sk_bI true → sk_stk dg' st' rl' (b + 1) q 0 r → W n (k + 1) (b + 2) vs es (lc' + 1) (sk_put 200 lc' la' 1) pc pa dg' st' rl' ch') → W (n + 1) k (b + 1) vs es lc la pc pa dg st rl ch
def sk_ry3c (W : sk_WT) : Prop := ∀ (n k b : Nat) (vs es : sk_F) (lc : Nat) (la : sk_F) (pc : Nat) (pa : sk_F) (dg st rl ch : sk_F) (s g : Nat) (r : Bool) (p q : Nat) (v : Int32) (lc' : Nat) (la' : sk_F),
  s < N → k < 60000 → b < 31 → sk_stk dg st rl b s g r → sk s = 3 → g = 0 → p < M → sx s = nI p → q < N → sy s = nI q → sk_EvY M ek ex ey ez ew vs es p lc la v lc' la' → sec p = 0 → v = 0 → lc' < 2 ^ 30 → (∀ dg' st' rl' ch' : sk_F, sk_a4 b dg st rl ch dg' st' rl' ch' → sk_stk dg' st' rl' b s (g + 1) r → ch' b = sk_bI false → W n (k + 1) (b + 1) vs es (lc' + 1) (sk_put 200 lc' la' 0) pc pa dg' st' rl' ch') → W (n + 1) k (b + 1) vs es lc la pc pa dg st rl ch
def sk_ry3d (W : sk_WT) : Prop := ∀ (n k b : Nat) (vs es : sk_F) (lc : Nat) (la : sk_F) (pc : Nat) (pa : sk_F) (dg st rl ch : sk_F) (s g : Nat) (r : Bool) (p z : Nat) (tk : Bool),
  s < N → k < 60000 → b < 31 → sk_stk dg st rl b s g r → sk s = 3 → g = 1 → p < M → sx s = nI p → ¬ sec p = 0 → z < N → sz s = nI z → ch b = sk_bI tk → (∀ dg' st' rl' ch' : sk_F, sk_a4 b dg st rl ch dg' st' rl' ch' → sk_stk dg' st' rl' b s (g + 1) r → sk_stk dg' st' rl' (b + 1) z 0 (r && !tk) → W n (k + 1) (b + 2) vs es lc la pc pa dg' st' rl' ch') → W (n + 1) k (b + 1) vs es lc la pc pa dg st rl ch
def sk_ry3e (W : sk_WT) : Prop := ∀ (n k b : Nat) (vs es : sk_F) (lc : Nat) (la : sk_F) (pc : Nat) (pa : sk_F) (dg st rl ch : sk_F) (s g : Nat) (r : Bool) (p z : Nat),
  s < N → k < 60000 → b < 31 → sk_stk dg st rl b s g r → sk s = 3 → g = 1 → p < M → sx s = nI p → sec p = 0 → z < N → sz s = nI z → ch b = sk_bI false → (∀ dg' st' rl' ch' : sk_F, sk_a4 b dg st rl ch dg' st' rl' ch' → sk_stk dg' st' rl' b s (g + 1) r → sk_stk dg' st' rl' (b + 1) z 0 r → W n (k + 1) (b + 2) vs es lc la pc pa dg' st' rl' ch') → W (n + 1) k (b + 1) vs es lc la pc pa dg st rl ch
def sk_ry3f (W : sk_WT) : Prop := ∀ (n k b : Nat) (vs es : sk_F) (lc : Nat) (la : sk_F) (pc : Nat) (pa : sk_F) (dg st rl ch : sk_F) (s g : Nat) (r : Bool) (p : Nat),
  s < N → k < 60000 → b < 31 → sk_stk dg st rl b s g r → sk s = 3 → g = 1 → p < M → sx s = nI p → (sz s = -1 ∨ ∃ z, z < N ∧ sz s = nI z ∧ sec p = 0 ∧ ch b = sk_bI true) → (∀ dg' st' rl' ch' : sk_F, sk_a4 b dg st rl ch dg' st' rl' ch' → W n (k + 1) b vs es lc la pc pa dg' st' rl' ch') → W (n + 1) k (b + 1) vs es lc la pc pa dg st rl ch
def sk_ry3g (W : sk_WT) : Prop := ∀ (n k b : Nat) (vs es : sk_F) (lc : Nat) (la : sk_F) (pc : Nat) (pa : sk_F) (dg st rl ch : sk_F) (s g : Nat) (r : Bool) (p : Nat),
  s < N → k < 60000 → b < 31 → sk_stk dg st rl b s g r → sk s = 3 → g = 2 → p < M → sx s = nI p → (∀ dg' st' rl' ch' : sk_F, sk_a4 b dg st rl ch dg' st' rl' ch' → W n (k + 1) b vs es lc la pc pa dg' st' rl' ch') → W (n + 1) k (b + 1) vs es lc la pc pa dg st rl ch
def sk_ry4a (W : sk_WT) : Prop := ∀ (n k b : Nat) (vs es : sk_F) (lc : Nat) (la : sk_F) (pc : Nat) (pa : sk_F) (dg st rl ch : sk_F) (s g : Nat) (r : Bool) (x q : Nat),
  s < N → k < 60000 → b < 31 → sk_stk dg st rl b s g r → sk s = 4 → x ≤ 6 → sx s = nI x → q < N → sy s = nI q → g < x → (∀ dg' st' rl' ch' : sk_F, sk_a4 b dg st rl ch dg' st' rl' ch' → sk_stk dg' st' rl' b s (g + 1) r → sk_stk dg' st' rl' (b + 1) q 0 r → W n (k + 1) (b + 2) vs es lc la pc pa dg' st' rl' ch') → W (n + 1) k (b + 1) vs es lc la pc pa dg st rl ch
def sk_ry4b (W : sk_WT) : Prop := ∀ (n k b : Nat) (vs es : sk_F) (lc : Nat) (la : sk_F) (pc : Nat) (pa : sk_F) (dg st rl ch : sk_F) (s g : Nat) (r : Bool) (x : Nat),
  s < N → k < 60000 → b < 31 → sk_stk dg st rl b s g r → sk s = 4 → x ≤ 6 → sx s = nI x → g = x → (∀ dg' st' rl' ch' : sk_F, sk_a4 b dg st rl ch dg' st' rl' ch' → W n (k + 1) b vs es lc la pc pa dg' st' rl' ch') → W (n + 1) k (b + 1) vs es lc la pc pa dg st rl ch
def sk_ry5a (W : sk_WT) : Prop := ∀ (n k b : Nat) (vs es : sk_F) (lc : Nat) (la : sk_F) (pc : Nat) (pa : sk_F) (dg st rl ch : sk_F) (s g : Nat) (r : Bool) (p q : Nat) (v : Int32) (lc' : Nat) (la' : sk_F),
  s < N → k < 60000 → b < 31 → sk_stk dg st rl b s g r → sk s = 5 → p < M → sx s = nI p → g < 6 → sk_EvY M ek ex ey ez ew vs es p lc la v lc' la' → lc' < 2 ^ 30 → q < N → sy s = nI q → ¬ v = 0 → (∀ dg' st' rl' ch' : sk_F, sk_a4 b dg st rl ch dg' st' rl' ch' → sk_stk dg' st' rl' b s (g + 1) r → sk_stk dg' st' rl' (b + 1) q 0 r → W n (k + 1) (b + 2) vs es (lc' + 1) (sk_put 200 lc' la' 3) pc pa dg' st' rl' ch') → W (n + 1) k (b + 1) vs es lc la pc pa dg st rl ch
def sk_ry5b (W : sk_WT) : Prop := ∀ (n k b : Nat) (vs es : sk_F) (lc : Nat) (la : sk_F) (pc : Nat) (pa : sk_F) (dg st rl ch : sk_F) (s g : Nat) (r : Bool) (p : Nat) (v : Int32) (lc' : Nat) (la' : sk_F),
  s < N → k < 60000 → b < 31 → sk_stk dg st rl b s g r → sk s = 5 → p < M → sx s = nI p → g < 6 → sk_EvY M ek ex ey ez ew vs es p lc la v lc' la' → lc' < 2 ^ 30 → v = 0 → (∀ dg' st' rl' ch' : sk_F, sk_a4 b dg st rl ch dg' st' rl' ch' → W n (k + 1) b vs es (lc' + 1) (sk_put 200 lc' la' 2) pc pa dg' st' rl' ch') → W (n + 1) k (b + 1) vs es lc la pc pa dg st rl ch
def sk_ry5c (W : sk_WT) : Prop := ∀ (n k b : Nat) (vs es : sk_F) (lc : Nat) (la : sk_F) (pc : Nat) (pa : sk_F) (dg st rl ch : sk_F) (s g : Nat) (r : Bool),
  s < N → k < 60000 → b < 31 → sk_stk dg st rl b s g r → sk s = 5 → g = 6 → (∀ dg' st' rl' ch' : sk_F, sk_a4 b dg st rl ch dg' st' rl' ch' → W n (k + 1) b vs es lc la pc pa dg' st' rl' ch') → W (n + 1) k (b + 1) vs es lc la pc pa dg st rl ch
def sk_ry6 (W : sk_WT) : Prop := ∀ (n k b : Nat) (vs es : sk_F) (lc : Nat) (la : sk_F) (pc : Nat) (pa : sk_F) (dg st rl ch : sk_F) (s g : Nat) (r : Bool) (p : Nat) (v : Int32) (lc' : Nat) (la' : sk_F),
  s < N → k < 60000 → b < 31 → sk_stk dg st rl b s g r → sk s = 6 → p < M → sx s = nI p → sk_EvY M ek ex ey ez ew vs es p lc la v lc' la' → pc < 2 ^ 30 → (∀ dg' st' rl' ch' : sk_F, sk_a4 b dg st rl ch dg' st' rl' ch' → W n (k + 1) b vs es lc' la' (pc + 1) (sk_put 20 pc pa v) dg' st' rl' ch') → W (n + 1) k (b + 1) vs es lc la pc pa dg st rl ch
end
def sk_RXs (M N : Nat) (ek ex ew od sec sk sx sy sz : sk_F) (W : sk_WS) : Prop := sk_rx0 M N ek ex ew od sk sx sy W ∧ sk_rx1 M N ek ex ew od sk sx sy sz W ∧ sk_rx2 N sk sx sy W ∧ sk_rx3a M N ek ex ew od sec sk sx sy sz W ∧ sk_rx3b M N ek ex ew od sec sk sx sy sz W ∧ sk_rx3c M N ek ex ew od sec sk sx sy W ∧ sk_rx3d M N ek ex ew od sec sk sx sy sz W ∧ sk_rx3e M N ek ex ew od sec sk sx sy sz W ∧ sk_rx4a N sk sx sy W ∧ sk_rx4b N sk sx W ∧ sk_rx5a M N ek ex ew od sk sx sy W ∧ sk_rx5b M N ek ex ew od sk sx W ∧ sk_rx5c N sk W ∧ sk_rx6 M N ek ex ew od sk sx W
def sk_RYs (M N : Nat) (ek ex ey ez ew sec sk sx sy sz : sk_F) (W : sk_WT) : Prop := sk_ry0 M N ek ex ey ez ew sk sx sy W ∧ sk_ry1 M N ek ex ey ez ew sk sx sy sz W ∧ sk_ry2a N sk sx W ∧ sk_ry2b N sk sy W ∧ sk_ry2c N sk W ∧ sk_ry3a M N ek ex ey ez ew sec sk sx sy W ∧ sk_ry3b M N ek ex ey ez ew sec sk sx sy W ∧ sk_ry3c M N ek ex ey ez ew sec sk sx sy W ∧ sk_ry3d M N sec sk sx sz W ∧ sk_ry3e M N sec sk sx sz W ∧ sk_ry3f M N sec sk sx sz W ∧ sk_ry3g M N sk sx W ∧ sk_ry4a N sk sx sy W ∧ sk_ry4b N sk sx W ∧ sk_ry5a M N ek ex ey ez ew sk sx sy W ∧ sk_ry5b M N ek ex ey ez ew sk sx W ∧ sk_ry5c N sk W ∧ sk_ry6 M N ek ex ey ez ew sk sx W
def sk_XS (M N : Nat) (ek ex ew od sec sk sx sy sz sw : sk_F) (s t : Nat) (r : Bool) (vs es : sk_F) (lc : Nat) (la : sk_F) (pc : Nat) (pa : sk_F) (vs1 es1 : sk_F) (lc1 : Nat) (la1 : sk_F) (pc1 : Nat) (pa1 : sk_F) (c : Nat) : Prop :=
  ∀ W : sk_WS, sk_RXs M N ek ex ew od sec sk sx sy sz W → ∀ (n step b : Nat) (ps pt pr : sk_F), b + sk_w sw s ≤ 30 → step + c ≤ 1000000 → sk_stk ps pt pr b s t r →
    (∀ ps' pt' pr' : sk_F, sk_ag b ps pt pr ps' pt' pr' → W n (step + c) b vs1 es1 lc1 la1 pc1 pa1 ps' pt' pr') → W (n + c) step (b + 1) vs es lc la pc pa ps pt pr
def sk_YS (M N : Nat) (ek ex ey ez ew sec sk sx sy sz sw : sk_F) (s g : Nat) (r : Bool) (vs es : sk_F) (lc : Nat) (la : sk_F) (pc : Nat) (pa : sk_F) (vs1 es1 : sk_F) (lc1 : Nat) (la1 : sk_F) (pc1 : Nat) (pa1 : sk_F) (c : Nat) : Prop :=
  ∀ W : sk_WT, sk_RYs M N ek ex ey ez ew sec sk sx sy sz W → ∀ (n k b : Nat) (dg st rl ch : sk_F), b + sk_w sw s ≤ 31 → k + c ≤ 60000 → sk_stk dg st rl b s g r →
    (∀ dg' st' rl' ch' : sk_F, sk_a4 b dg st rl ch dg' st' rl' ch' → W n (k + c) b vs1 es1 lc1 la1 pc1 pa1 dg' st' rl' ch') → W (n + c) k (b + 1) vs es lc la pc pa dg st rl ch
section
variable {M N : Nat} {ek ex ey ez ew od sec sk sx sy sz sw : sk_F}
/-- X: the item above, then the item below -/
theorem sk_x2 {p q t1 t2 c1 c2 : Nat} {r1 r2 : Bool} {vs es : sk_F} {lc : Nat} {la : sk_F} {pc : Nat} {pa : sk_F} {vs1 es1 : sk_F} {lc1 : Nat} {la1 : sk_F} {pc1 : Nat} {pa1 : sk_F} {vs2 es2 : sk_F} {lc2 : Nat} {la2 : sk_F} {pc2 : Nat} {pa2 : sk_F} (A1 : sk_XS M N ek ex ew od sec sk sx sy sz sw p t1 r1 vs es lc la pc pa vs1 es1 lc1 la1 pc1 pa1 c1) (A2 : sk_XS M N ek ex ew od sec sk sx sy sz sw q t2 r2 vs1 es1 lc1 la1 pc1 pa1 vs2 es2 lc2 la2 pc2 pa2 c2)
    {W : sk_WS} (R : sk_RXs M N ek ex ew od sec sk sx sy sz W) {n step b : Nat} {ps pt pr : sk_F} (h1 : b + 1 + sk_w sw p ≤ 30) (h2 : b + sk_w sw q ≤ 30) (h3 : step + c1 + c2 ≤ 1000000) (k1 : sk_stk ps pt pr b q t2 r2) (k2 : sk_stk ps pt pr (b + 1) p t1 r1)
    (C : ∀ ps' pt' pr' : sk_F, sk_ag b ps pt pr ps' pt' pr' → W n (step + c1 + c2) b vs2 es2 lc2 la2 pc2 pa2 ps' pt' pr') : W (n + c2 + c1) step (b + 2) vs es lc la pc pa ps pt pr := by
  refine A1 W R (n + c2) step (b + 1) ps pt pr (by omega) (by omega) k2 ?_
  intro ps' pt' pr' a1
  refine A2 W R n (step + c1) b ps' pt' pr' h2 (by omega) (sk_stk_ag k1 a1 (by omega)) ?_
  intro ps2 pt2 pr2 a2
  exact C ps2 pt2 pr2 (sk_ag_tr (fun j hj => a1 j (by omega)) a2 (by omega))
theorem sk_b2 {K K1 K2 w1 w2 c1 c2 : Nat} (h3 : 3 ≤ K) (h1 : K1 ≤ K) (h2 : K2 ≤ K) (e1 : c1 ≤ K1 * w1) (e2 : c2 ≤ K2 * w2) {w : Nat} (hw : w1 + w2 + 1 ≤ w) : 3 + c1 + c2 ≤ K * w := by
  have a1 : K1 * w1 ≤ K * w1 := Nat.mul_le_mul_right _ h1
  have a2 : K2 * w2 ≤ K * w2 := Nat.mul_le_mul_right _ h2
  have a3 : K * (w1 + w2 + 1) ≤ K * w := Nat.mul_le_mul_left _ hw
  rw [Nat.mul_add, Nat.mul_add] at a3
  omega
theorem sk_b1 {K K1 w1 c1 : Nat} (h3 : 3 ≤ K) (h1 : K1 ≤ K) (e1 : c1 ≤ K1 * w1) {w : Nat} (hw : w1 + 1 ≤ w) : 3 + c1 ≤ K * w := by
  have := sk_b2 (K2 := 0) (w2 := 0) (c2 := 0) h3 h1 (Nat.zero_le _) e1 (Nat.le_refl _) (w := w) (by omega)
  omega
theorem sk_b4 {K w1 w : Nat} (h3 : 3 ≤ K) (hw : w1 + 1 ≤ w) : 6 * (1 + K * w1) + 1 ≤ 6 * K * w := by
  have a3 : 6 * K * (w1 + 1) ≤ 6 * K * w := Nat.mul_le_mul_left _ hw
  rw [Nat.mul_add, Nat.mul_assoc] at a3
  omega
def sk_K (d : Nat) : Nat := 3 * 6 ^ d
theorem sk_K3 (d : Nat) : 3 ≤ sk_K d := by
  have : 0 < 6 ^ d := Nat.pow_pos (by decide)
  unfold sk_K
  omega
theorem sk_Km {d d' : Nat} (h : d ≤ d') : sk_K d ≤ sk_K d' := Nat.mul_le_mul_left _ (Nat.pow_le_pow_right (by decide) h)
theorem sk_Ks (d : Nat) : sk_K (d + 1) = 6 * sk_K d := by
  unfold sk_K
  rw [Nat.pow_succ]
  omega
theorem sk_Kb {d w : Nat} (h : d ≤ 3) (hw : w ≤ 30) : sk_K d * w ≤ 19440 :=
  Nat.le_trans (Nat.mul_le_mul (sk_Km h) hw) (by decide)
def sk_G (M N : Nat) (ek ex ey ez ew od sec sk sx sy sz sw : sk_F) (s t : Nat) (r : Bool) (vs es : sk_F) (lc : Nat) (la : sk_F) (pc : Nat) (pa : sk_F) (Bd : Nat) : Prop :=
  ∃ (vs1 es1 : sk_F) (lc1 : Nat) (la1 : sk_F) (pc1 : Nat) (pa1 : sk_F) (cx cy : Nat), cx ≤ cy ∧ cy ≤ Bd ∧ lc1 ≤ lc + 31 * cx ∧ pc1 ≤ pc + cx ∧ sk_XS M N ek ex ew od sec sk sx sy sz sw s t r vs es lc la pc pa vs1 es1 lc1 la1 pc1 pa1 cx ∧ sk_YS M N ek ex ey ez ew sec sk sx sy sz sw s t r vs es lc la pc pa vs1 es1 lc1 la1 pc1 pa1 cy
theorem sk_g0 {s t x p : Nat} {r : Bool} {vs es : sk_F} {lc : Nat} {la : sk_F} {pc : Nat} {pa : sk_F} {v : Int32} {lc' : Nat} {la' : sk_F} (hsN : s < N) (hk : sk s = 0) (hx : x < 8) (h1 : sx s = nI x) (hp : p < M) (h2 : sy s = nI p) (hw : 1 ≤ sk_w sw s)
    (X : sk_EvX M ek ex ew od vs es p lc la v lc' la') (Y : sk_EvY M ek ex ey ez ew vs es p lc la v lc' la') (hl : lc' ≤ lc + 30) {Bd : Nat} (hB : 1 ≤ Bd) : sk_G M N ek ex ey ez ew od sec sk sx sy sz sw s t r vs es lc la pc pa Bd := by
  refine ⟨(if r then upd vs x v else vs), es, lc', la', pc, pa, 1, 1, Nat.le_refl _, hB, by omega, by omega, ?_, ?_⟩
  · intro W R n step b ps pt pr hb hc hs C
    exact R.1 n step b vs es lc la pc pa ps pt pr s t r x p v lc' la' hsN (by omega) (by omega) hs hk hx h1 hp h2 X (C ps pt pr (fun _ _ => ⟨rfl, rfl, rfl⟩))
  · intro W R n k b dg st rl ch hb hc hs C
    exact R.1 n k b vs es lc la pc pa dg st rl ch s t r x p v lc' la' hsN (by omega) (by omega) hs hk hx h1 hp h2 Y C
theorem sk_g1 {s t a p q : Nat} {r : Bool} {vs es : sk_F} {lc : Nat} {la : sk_F} {pc : Nat} {pa : sk_F} {i v : Int32} {lc0 lc' : Nat} {la0 la' : sk_F} (hsN : s < N) (hk : sk s = 1) (hx : a < 2) (h1 : sx s = nI a) (hp : p < M) (h2 : sy s = nI p) (hq : q < M) (h3 : sz s = nI q) (hw : 1 ≤ sk_w sw s)
    (X0 : sk_EvX M ek ex ew od vs es p lc la i lc0 la0) (Y0 : sk_EvY M ek ex ey ez ew vs es p lc la i lc0 la0) (X : sk_EvX M ek ex ew od vs es q lc0 la0 v lc' la') (Y : sk_EvY M ek ex ey ez ew vs es q lc0 la0 v lc' la') (hl : lc' ≤ lc + 30) (hl2 : lc + 31 ≤ 2 ^ 30) {Bd : Nat} (hB : 1 ≤ Bd) : sk_G M N ek ex ey ez ew od sec sk sx sy sz sw s t r vs es lc la pc pa Bd := by
  refine ⟨vs, (if r then upd es (sk_at (nI a) i).toNatClampNeg v else es), lc' + 1, (sk_put 200 lc' la' (32 + sk_at (nI a) i)), pc, pa, 1, 1, Nat.le_refl _, hB, by omega, by omega, ?_, ?_⟩
  · intro W R n step b ps pt pr hb hc hs C
    exact R.2.1 n step b vs es lc la pc pa ps pt pr s t r a p q i lc0 la0 v lc' la' hsN (by omega) (by omega) hs hk hx h1 hp h2 hq h3 X0 X (by omega) (C ps pt pr (fun _ _ => ⟨rfl, rfl, rfl⟩))
  · intro W R n k b dg st rl ch hb hc hs C
    exact R.2.1 n k b vs es lc la pc pa dg st rl ch s t r a p q i lc0 la0 v lc' la' hsN (by omega) (by omega) hs hk hx h1 hp h2 hq h3 Y0 Y (by omega) C
theorem sk_g6 {s t p : Nat} {vs es : sk_F} {lc : Nat} {la : sk_F} {pc : Nat} {pa : sk_F} {v : Int32} {lc' : Nat} {la' : sk_F} (hsN : s < N) (hk : sk s = 6) (hp : p < M) (h1 : sx s = nI p) (hw : 1 ≤ sk_w sw s)
    (X : sk_EvX M ek ex ew od vs es p lc la v lc' la') (Y : sk_EvY M ek ex ey ez ew vs es p lc la v lc' la') (hl : lc' ≤ lc + 30) (hpc : pc < 2 ^ 30) {Bd : Nat} (hB : 1 ≤ Bd) : sk_G M N ek ex ey ez ew od sec sk sx sy sz sw s t true vs es lc la pc pa Bd := by
  refine ⟨vs, es, lc', la', pc + 1, (sk_put 20 pc pa v), 1, 1, Nat.le_refl _, hB, by omega, by omega, ?_, ?_⟩
  · intro W R n step b ps pt pr hb hc hs C
    exact R.2.2.2.2.2.2.2.2.2.2.2.2.2 n step b vs es lc la pc pa ps pt pr s t true p v lc' la' hsN (by omega) (by omega) hs hk hp h1 X rfl hpc (C ps pt pr (fun _ _ => ⟨rfl, rfl, rfl⟩))
  · intro W R n k b dg st rl ch hb hc hs C
    exact R.2.2.2.2.2.2.2.2.2.2.2.2.2.2.2.2.2 n k b vs es lc la pc pa dg st rl ch s t true p v lc' la' hsN (by omega) (by omega) hs hk hp h1 Y hpc C
theorem sk_g2 {s p q : Nat} {r : Bool} {vs es : sk_F} {lc : Nat} {la : sk_F} {pc : Nat} {pa : sk_F} (hsN : s < N) (hk : sk s = 2) (hp : p < N) (h1 : sx s = nI p) (hq : q < N) (h2 : sy s = nI q) (hw : sk_w sw p + sk_w sw q + 1 ≤ sk_w sw s) (wp : 1 ≤ sk_w sw p) (wq : 1 ≤ sk_w sw q) {B1 B2 : Nat}
    (G1 : sk_G M N ek ex ey ez ew od sec sk sx sy sz sw p 0 r vs es lc la pc pa B1) (G2 : ∀ (vs1 es1 : sk_F) (lc1 : Nat) (la1 : sk_F) (pc1 : Nat) (pa1 : sk_F), lc1 ≤ lc + 31 * B1 → pc1 ≤ pc + B1 → sk_G M N ek ex ey ez ew od sec sk sx sy sz sw q 0 r vs1 es1 lc1 la1 pc1 pa1 B2) {Bd : Nat} (hB : 3 + B1 + B2 ≤ Bd) : sk_G M N ek ex ey ez ew od sec sk sx sy sz sw s 0 r vs es lc la pc pa Bd := by
  obtain ⟨vs1, es1, lc1, la1, pc1, pa1, c1, d1, i1, i2, i3, i4, X1, Y1⟩ := G1
  obtain ⟨vs2, es2, lc2, la2, pc2, pa2, c2, d2, j1, j2, j3, j4, X2, Y2⟩ := G2 vs1 es1 lc1 la1 pc1 pa1 (by omega) (by omega)
  refine ⟨vs2, es2, lc2, la2, pc2, pa2, 1 + c1 + c2, 3 + d1 + d2, by omega, by omega, by omega, by omega, ?_, ?_⟩
  · intro W R n step b ps pt pr hb hc hs C
    have e1 : n + (1 + c1 + c2) = n + c2 + c1 + 1 := by omega
    rw [e1]
    refine R.2.2.1 (n + c2 + c1) step b vs es lc la pc pa ps pt pr s 0 r p q hsN (by omega) (by omega) hs hk hp h1 hq h2 (by omega) ?_
    intro ps' pt' pr' a1 k1 k2
    refine sk_x2 X1 X2 R (by omega) (by omega) (by omega) k1 k2 ?_
    intro ps2 pt2 pr2 a2
    have e2 : step + 1 + c1 + c2 = step + (1 + c1 + c2) := by omega
    rw [e2]
    exact C _ _ _ (sk_ag_tr a1 a2 (Nat.le_refl _))
  · intro W R n k b dg st rl ch hb hc hs C
    have e1 : n + (3 + d1 + d2) = n + 1 + d2 + 1 + d1 + 1 := by omega
    rw [e1]
    refine R.2.2.1 _ k b vs es lc la pc pa dg st rl ch s 0 r p hsN (by omega) (by omega) hs hk hp h1 rfl ?_
    intro dg1 st1 rl1 ch1 a1 k1 k2
    refine Y1 W R _ (k + 1) (b + 1) dg1 st1 rl1 ch1 (by omega) (by omega) k2 ?_
    intro dg2 st2 rl2 ch2 a2
    refine R.2.2.2.1 _ (k + 1 + d1) b vs1 es1 lc1 la1 pc1 pa1 dg2 st2 rl2 ch2 s 1 r q hsN (by omega) (by omega) (sk_stk_a4 k1 a2 (by omega)) hk hq h2 rfl ?_
    intro dg3 st3 rl3 ch3 a3 k3 k4
    refine Y2 W R _ (k + 1 + d1 + 1) (b + 1) dg3 st3 rl3 ch3 (by omega) (by omega) k4 ?_
    intro dg4 st4 rl4 ch4 a4
    refine R.2.2.2.2.1 n (k + 1 + d1 + 1 + d2) b vs2 es2 lc2 la2 pc2 pa2 dg4 st4 rl4 ch4 s 2 r hsN (by omega) (by omega) (sk_stk_a4 k3 a4 (by omega)) hk rfl ?_
    intro dg5 st5 rl5 ch5 a5
    have e2 : k + 1 + d1 + 1 + d2 + 1 = k + (3 + d1 + d2) := by omega
    rw [e2]
    exact C _ _ _ _ (sk_a4_tr (sk_a4_tr (sk_a4_tr (sk_a4_tr a1 a2 (by omega)) a3 (by omega)) a4 (by omega)) a5 (by omega))
theorem sk_g3a {s p q : Nat} {r : Bool} {vs es : sk_F} {lc : Nat} {la : sk_F} {pc : Nat} {pa : sk_F} {v : Int32} {lc' : Nat} {la' : sk_F} (hsN : s < N) (hk : sk s = 3) (hp : p < M) (h1 : sx s = nI p) (hq : q < N) (h2 : sy s = nI q) (X : sk_EvX M ek ex ew od vs es p lc la v lc' la') (Y : sk_EvY M ek ex ey ez ew vs es p lc la v lc' la') (hl : lc' ≤ lc + 30) (hw : sk_w sw q + 1 ≤ sk_w sw s) (wq : 1 ≤ sk_w sw q) (hsec : ¬ sec p = 0) (hz : sz s = -1) {B1 : Nat}
    (G1 : sk_G M N ek ex ey ez ew od sec sk sx sy sz sw q 0 (r && decide (¬ v = 0)) vs es lc' la' pc pa B1) {Bd : Nat} (hB : 3 + B1 ≤ Bd) : sk_G M N ek ex ey ez ew od sec sk sx sy sz sw s 0 r vs es lc la pc pa Bd := by
  obtain ⟨vs1, es1, lc1, la1, pc1, pa1, c1, d1, i1, i2, i3, i4, X1, Y1⟩ := G1
  refine ⟨vs1, es1, lc1, la1, pc1, pa1, 1 + c1, 2 + d1, by omega, by omega, by omega, by omega, ?_, ?_⟩
  · intro W R n step b ps pt pr hb hc hs C
    have e1 : n + (1 + c1) = n + c1 + 1 := by omega
    rw [e1]
    refine R.2.2.2.1 (n + c1) step b vs es lc la pc pa ps pt pr s 0 r p q v lc' la' hsN (by omega) (by omega) hs hk hp h1 hq h2 X hsec hz ?_
    intro ps' pt' pr' a1 k1
    refine X1 W R n (step + 1) b ps' pt' pr' (by omega) (by omega) k1 ?_
    intro ps2 pt2 pr2 a2
    have e2 : step + 1 + c1 = step + (1 + c1) := by omega
    rw [e2]
    exact C _ _ _ (sk_ag_tr a1 a2 (Nat.le_refl _))
  · intro W R n k b dg st rl ch hb hc hs C
    have e1 : n + (2 + d1) = n + 1 + d1 + 1 := by omega
    rw [e1]
    refine R.2.2.2.2.2.1 _ k b vs es lc la pc pa dg st rl ch s 0 r p q v lc' la' hsN (by omega) (by omega) hs hk rfl hp h1 hq h2 Y hsec ?_
    intro dg1 st1 rl1 ch1 a1 k1 _ k2
    refine Y1 W R _ (k + 1) (b + 1) dg1 st1 rl1 ch1 (by omega) (by omega) k2 ?_
    intro dg2 st2 rl2 ch2 a2
    refine R.2.2.2.2.2.2.2.2.2.2.1 n (k + 1 + d1) b vs1 es1 lc1 la1 pc1 pa1 dg2 st2 rl2 ch2 s 1 r p hsN (by omega) (by omega) (sk_stk_a4 k1 a2 (by omega)) hk rfl hp h1 (Or.inl hz) ?_
    intro dg5 st5 rl5 ch5 a5
    have e2 : k + 1 + d1 + 1 = k + (2 + d1) := by omega
    rw [e2]
    exact C _ _ _ _ (sk_a4_tr (sk_a4_tr a1 a2 (by omega)) a5 (by omega))
theorem sk_g3b {s p q z : Nat} {r : Bool} {vs es : sk_F} {lc : Nat} {la : sk_F} {pc : Nat} {pa : sk_F} {v : Int32} {lc' : Nat} {la' : sk_F} (hsN : s < N) (hk : sk s = 3) (hp : p < M) (h1 : sx s = nI p) (hq : q < N) (h2 : sy s = nI q) (X : sk_EvX M ek ex ew od vs es p lc la v lc' la') (Y : sk_EvY M ek ex ey ez ew vs es p lc la v lc' la') (hl : lc' ≤ lc + 30) (hw : sk_w sw q + sk_w sw z + 1 ≤ sk_w sw s) (wq : 1 ≤ sk_w sw q) (wz : 1 ≤ sk_w sw z) (hsec : ¬ sec p = 0) (hzN : z < N) (hz : sz s = nI z) {B1 B2 : Nat}
    (G1 : sk_G M N ek ex ey ez ew od sec sk sx sy sz sw q 0 (r && decide (¬ v = 0)) vs es lc' la' pc pa B1) (G2 : ∀ (vs1 es1 : sk_F) (lc1 : Nat) (la1 : sk_F) (pc1 : Nat) (pa1 : sk_F), lc1 ≤ lc' + 31 * B1 → pc1 ≤ pc + B1 → sk_G M N ek ex ey ez ew od sec sk sx sy sz sw z 0 (r && decide (v = 0)) vs1 es1 lc1 la1 pc1 pa1 B2) {Bd : Nat} (hB : 3 + B1 + B2 ≤ Bd) : sk_G M N ek ex ey ez ew od sec sk sx sy sz sw s 0 r vs es lc la pc pa Bd := by
  obtain ⟨vs1, es1, lc1, la1, pc1, pa1, c1, d1, i1, i2, i3, i4, X1, Y1⟩ := G1
  obtain ⟨vs2, es2, lc2, la2, pc2, pa2, c2, d2, j1, j2, j3, j4, X2, Y2⟩ := G2 vs1 es1 lc1 la1 pc1 pa1 (by omega) (by omega)
  refine ⟨vs2, es2, lc2, la2, pc2, pa2, 1 + c1 + c2, 3 + d1 + d2, by omega, by omega, by omega, by omega, ?_, ?_⟩
  · intro W R n step b ps pt pr hb hc hs C
    have e1 : n + (1 + c1 + c2) = n + c2 + c1 + 1 := by omega
    rw [e1]
    refine R.2.2.2.2.1 (n + c2 + c1) step b vs es lc la pc pa ps pt pr s 0 r p q z v lc' la' hsN (by omega) (by omega) hs hk hp h1 hq h2 X hsec hzN hz (by omega) ?_
    intro ps' pt' pr' a1 k1 k2
    refine sk_x2 X1 X2 R (by omega) (by omega) (by omega) k1 k2 ?_
    intro ps2 pt2 pr2 a2
    have e2 : step + 1 + c1 + c2 = step + (1 + c1 + c2) := by omega
    rw [e2]
    exact C _ _ _ (sk_ag_tr a1 a2 (Nat.le_refl _))
  · intro W R n k b dg st rl ch hb hc hs C
    have e1 : n + (3 + d1 + d2) = n + 1 + d2 + 1 + d1 + 1 := by omega
    rw [e1]
    refine R.2.2.2.2.2.1 _ k b vs es lc la pc pa dg st rl ch s 0 r p q v lc' la' hsN (by omega) (by omega) hs hk rfl hp h1 hq h2 Y hsec ?_
    intro dg1 st1 rl1 ch1 a1 k1 kc k2
    refine Y1 W R _ (k + 1) (b + 1) dg1 st1 rl1 ch1 (by omega) (by omega) k2 ?_
    intro dg2 st2 rl2 ch2 a2
    refine R.2.2.2.2.2.2.2.2.1 _ (k + 1 + d1) b vs1 es1 lc1 la1 pc1 pa1 dg2 st2 rl2 ch2 s 1 r p z (decide (¬ v = 0)) hsN (by omega) (by omega) (sk_stk_a4 k1 a2 (by omega)) hk rfl hp h1 hsec hzN hz ((a2 b (by omega)).2.2.2.trans kc) ?_
    intro dg3 st3 rl3 ch3 a3 k3 k4
    have er : (r && !decide (¬ v = 0)) = (r && decide (v = 0)) := by by_cases hv : v = 0 <;> simp [hv]
    rw [er] at k4
    refine Y2 W R _ (k + 1 + d1 + 1) (b + 1) dg3 st3 rl3 ch3 (by omega) (by omega) k4 ?_
    intro dg4 st4 rl4 ch4 a4
    refine R.2.2.2.2.2.2.2.2.2.2.2.1 n (k + 1 + d1 + 1 + d2) b vs2 es2 lc2 la2 pc2 pa2 dg4 st4 rl4 ch4 s 2 r p hsN (by omega) (by omega) (sk_stk_a4 k3 a4 (by omega)) hk rfl hp h1 ?_
    intro dg5 st5 rl5 ch5 a5
    have e2 : k + 1 + d1 + 1 + d2 + 1 = k + (3 + d1 + d2) := by omega
    rw [e2]
    exact C _ _ _ _ (sk_a4_tr (sk_a4_tr (sk_a4_tr (sk_a4_tr a1 a2 (by omega)) a3 (by omega)) a4 (by omega)) a5 (by omega))
theorem sk_g3c {s p q : Nat} {r : Bool} {vs es : sk_F} {lc : Nat} {la : sk_F} {pc : Nat} {pa : sk_F} {v : Int32} {lc' : Nat} {la' : sk_F} (hsN : s < N) (hk : sk s = 3) (hp : p < M) (h1 : sx s = nI p) (hq : q < N) (h2 : sy s = nI q) (X : sk_EvX M ek ex ew od vs es p lc la v lc' la') (Y : sk_EvY M ek ex ey ez ew vs es p lc la v lc' la') (hl : lc' ≤ lc + 30) (hw : sk_w sw q + 1 ≤ sk_w sw s) (wq : 1 ≤ sk_w sw q) (hsec : sec p = 0) (hv : ¬ v = 0) (hz : sz s = -1 ∨ ∃ z, z < N ∧ sz s = nI z) (hl2 : lc + 31 ≤ 2 ^ 30) {B1 : Nat}
    (G1 : sk_G M N ek ex ey ez ew od sec sk sx sy sz sw q 0 r vs es (lc' + 1) (sk_put 200 lc' la' 1) pc pa B1) {Bd : Nat} (hB : 3 + B1 ≤ Bd) : sk_G M N ek ex ey ez ew od sec sk sx sy sz sw s 0 r vs es lc la pc pa Bd := by
  obtain ⟨vs1, es1, lc1, la1, pc1, pa1, c1, d1, i1, i2, i3, i4, X1, Y1⟩ := G1
  refine ⟨vs1, es1, lc1, la1, pc1, pa1, 1 + c1, 2 + d1, by omega, by omega, by omega, by omega, ?_, ?_⟩
  · intro W R n step b ps pt pr hb hc hs C
    have e1 : n + (1 + c1) = n + c1 + 1 := by omega
    rw [e1]
    refine R.2.2.2.2.2.1 (n + c1) step b vs es lc la pc pa ps pt pr s 0 r p q v lc' la' hsN (by omega) (by omega) hs hk hp h1 hq h2 X hsec hv (by omega) ?_
    intro ps' pt' pr' a1 k1
    refine X1 W R n (step + 1) b ps' pt' pr' (by omega) (by omega) k1 ?_
    intro ps2 pt2 pr2 a2
    have e2 : step + 1 + c1 = step + (1 + c1) := by omega
    rw [e2]
    exact C _ _ _ (sk_ag_tr a1 a2 (Nat.le_refl _))
  · intro W R n k b dg st rl ch hb hc hs C
    have e1 : n + (2 + d1) = n + 1 + d1 + 1 := by omega
    rw [e1]
    refine R.2.2.2.2.2.2.1 _ k b vs es lc la pc pa dg st rl ch s 0 r p q v lc' la' hsN (by omega) (by omega) hs hk rfl hp h1 hq h2 Y hsec hv (by omega) ?_
    intro dg1 st1 rl1 ch1 a1 k1 kc k2
    refine Y1 W R _ (k + 1) (b + 1) dg1 st1 rl1 ch1 (by omega) (by omega) k2 ?_
    intro dg2 st2 rl2 ch2 a2
    have hz2 : sz s = -1 ∨ ∃ z, z < N ∧ sz s = nI z ∧ sec p = 0 ∧ ch2 b = sk_bI true := by
      rcases hz with hz | ⟨z, z1, z2⟩
      · exact Or.inl hz
      · exact Or.inr ⟨z, z1, z2, hsec, (a2 b (by omega)).2.2.2.trans kc⟩
    refine R.2.2.2.2.2.2.2.2.2.2.1 n (k + 1 + d1) b vs1 es1 lc1 la1 pc1 pa1 dg2 st2 rl2 ch2 s 1 r p hsN (by omega) (by omega) (sk_stk_a4 k1 a2 (by omega)) hk rfl hp h1 hz2 ?_
    intro dg5 st5 rl5 ch5 a5
    have e2 : k + 1 + d1 + 1 = k + (2 + d1) := by omega
    rw [e2]
    exact C _ _ _ _ (sk_a4_tr (sk_a4_tr a1 a2 (by omega)) a5 (by omega))
theorem sk_g3d {s p q : Nat} {r : Bool} {vs es : sk_F} {lc : Nat} {la : sk_F} {pc : Nat} {pa : sk_F} {v : Int32} {lc' : Nat} {la' : sk_F} (hsN : s < N) (hk : sk s = 3) (hp : p < M) (h1 : sx s = nI p) (hq : q < N) (h2 : sy s = nI q) (X : sk_EvX M ek ex ew od vs es p lc la v lc' la') (Y : sk_EvY M ek ex ey ez ew vs es p lc la v lc' la') (hl : lc' ≤ lc + 30) (hw : 1 ≤ sk_w sw s) (hsec : sec p = 0) (hv : v = 0) (hz : sz s = -1) (hl2 : lc + 31 ≤ 2 ^ 30) {Bd : Nat} (hB : 3 ≤ Bd) : sk_G M N ek ex ey ez ew od sec sk sx sy sz sw s 0 r vs es lc la pc pa Bd := by
  refine ⟨vs, es, lc' + 1, (sk_put 200 lc' la' 0), pc, pa, 1, 2, by omega, by omega, by omega, by omega, ?_, ?_⟩
  · intro W R n step b ps pt pr hb hc hs C
    exact R.2.2.2.2.2.2.1 n step b vs es lc la pc pa ps pt pr s 0 r p q v lc' la' hsN (by omega) (by omega) hs hk hp h1 hq h2 X hsec hv hz (by omega) (C ps pt pr (fun _ _ => ⟨rfl, rfl, rfl⟩))
  · intro W R n k b dg st rl ch hb hc hs C
    refine R.2.2.2.2.2.2.2.1 (n + 1) k b vs es lc la pc pa dg st rl ch s 0 r p q v lc' la' hsN (by omega) (by omega) hs hk rfl hp h1 hq h2 Y hsec hv (by omega) ?_
    intro dg1 st1 rl1 ch1 a1 k1 kc
    refine R.2.2.2.2.2.2.2.2.2.2.1 n (k + 1) b vs es (lc' + 1) (sk_put 200 lc' la' 0) pc pa dg1 st1 rl1 ch1 s 1 r p hsN (by omega) (by omega) k1 hk rfl hp h1 (Or.inl hz) ?_
    intro dg5 st5 rl5 ch5 a5
    exact C _ _ _ _ (sk_a4_tr a1 a5 (by omega))
theorem sk_g3e {s p q z : Nat} {r : Bool} {vs es : sk_F} {lc : Nat} {la : sk_F} {pc : Nat} {pa : sk_F} {v : Int32} {lc' : Nat} {la' : sk_F} (hsN : s < N) (hk : sk s = 3) (hp : p < M) (h1 : sx s = nI p) (hq : q < N) (h2 : sy s = nI q) (X : sk_EvX M ek ex ew od vs es p lc la v lc' la') (Y : sk_EvY M ek ex ey ez ew vs es p lc la v lc' la') (hl : lc' ≤ lc + 30) (hw : sk_w sw z + 1 ≤ sk_w sw s) (wz : 1 ≤ sk_w sw z) (hsec : sec p = 0) (hv : v = 0) (hzN : z < N) (hz : sz s = nI z) (hl2 : lc + 31 ≤ 2 ^ 30) {B1 : Nat}
    (G1 : sk_G M N ek ex ey ez ew od sec sk sx sy sz sw z 0 r vs es (lc' + 1) (sk_put 200 lc' la' 0) pc pa B1) {Bd : Nat} (hB : 3 + B1 ≤ Bd) : sk_G M N ek ex ey ez ew od sec sk sx sy sz sw s 0 r vs es lc la pc pa Bd := by
  obtain ⟨vs1, es1, lc1, la1, pc1, pa1, c1, d1, i1, i2, i3, i4, X1, Y1⟩ := G1
  refine ⟨vs1, es1, lc1, la1, pc1, pa1, 1 + c1, 3 + d1, by omega, by omega, by omega, by omega, ?_, ?_⟩
  · intro W R n step b ps pt pr hb hc hs C
    have e1 : n + (1 + c1) = n + c1 + 1 := by omega
    rw [e1]
    refine R.2.2.2.2.2.2.2.1 (n + c1) step b vs es lc la pc pa ps pt pr s 0 r p q z v lc' la' hsN (by omega) (by omega) hs hk hp h1 hq h2 X hsec hv hzN hz (by omega) ?_
    intro ps' pt' pr' a1 k1
    refine X1 W R n (step + 1) b ps' pt' pr' (by omega) (by omega) k1 ?_
    intro ps2 pt2 pr2 a2
    have e2 : step + 1 + c1 = step + (1 + c1) := by omega
    rw [e2]
    exact C _ _ _ (sk_ag_tr a1 a2 (Nat.le_refl _))
  · intro W R n k b dg st rl ch hb hc hs C
    have e1 : n + (3 + d1) = n + 1 + d1 + 1 + 1 := by omega
    rw [e1]
    refine R.2.2.2.2.2.2.2.1 _ k b vs es lc la pc pa dg st rl ch s 0 r p q v lc' la' hsN (by omega) (by omega) hs hk rfl hp h1 hq h2 Y hsec hv (by omega) ?_
    intro dg1 st1 rl1 ch1 a1 k1 kc
    refine R.2.2.2.2.2.2.2.2.2.1 _ (k + 1) b vs es (lc' + 1) (sk_put 200 lc' la' 0) pc pa dg1 st1 rl1 ch1 s 1 r p z hsN (by omega) (by omega) k1 hk rfl hp h1 hsec hzN hz kc ?_
    intro dg3 st3 rl3 ch3 a3 k3 k4
    refine Y1 W R _ (k + 1 + 1) (b + 1) dg3 st3 rl3 ch3 (by omega) (by omega) k4 ?_
    intro dg4 st4 rl4 ch4 a4
    refine R.2.2.2.2.2.2.2.2.2.2.2.1 n (k + 1 + 1 + d1) b vs1 es1 lc1 la1 pc1 pa1 dg4 st4 rl4 ch4 s 2 r p hsN (by omega) (by omega) (sk_stk_a4 k3 a4 (by omega)) hk rfl hp h1 ?_
    intro dg5 st5 rl5 ch5 a5
    have e2 : k + 1 + 1 + d1 + 1 = k + (3 + d1) := by omega
    rw [e2]
    exact C _ _ _ _ (sk_a4_tr (sk_a4_tr (sk_a4_tr a1 a3 (by omega)) a4 (by omega)) a5 (by omega))
theorem sk_g4 {s x q : Nat} {r : Bool} (hsN : s < N) (hk : sk s = 4) (hx : x ≤ 6) (h1 : sx s = nI x) (hq : q < N) (h2 : sy s = nI q) (hw : sk_w sw q + 1 ≤ sk_w sw s) (wq : 1 ≤ sk_w sw q) {B1 U V : Nat}
    (G1 : ∀ (vs es : sk_F) (lc : Nat) (la : sk_F) (pc : Nat) (pa : sk_F), lc + 31 * B1 ≤ U → pc + B1 ≤ V → sk_G M N ek ex ey ez ew od sec sk sx sy sz sw q 0 r vs es lc la pc pa B1) :
    ∀ (m t : Nat) (vs es : sk_F) (lc : Nat) (la : sk_F) (pc : Nat) (pa : sk_F), t + m = x → lc + 31 * (m * (1 + B1) + 1) ≤ U → pc + (m * (1 + B1) + 1) ≤ V → sk_G M N ek ex ey ez ew od sec sk sx sy sz sw s t r vs es lc la pc pa (m * (1 + B1) + 1) := by
  intro m
  induction m with
  | zero =>
    intro t vs es lc la pc pa ht hU hV
    refine ⟨vs, es, lc, la, pc, pa, 1, 1, by omega, by omega, by omega, by omega, ?_, ?_⟩
    · intro W R n step b ps pt pr hb hc hs C
      exact R.2.2.2.2.2.2.2.2.2.1 n step b vs es lc la pc pa ps pt pr s t r x hsN (by omega) (by omega) hs hk hx h1 (by omega) (C ps pt pr (fun _ _ => ⟨rfl, rfl, rfl⟩))
    · intro W R n k b dg st rl ch hb hc hs C
      exact R.2.2.2.2.2.2.2.2.2.2.2.2.2.1 n k b vs es lc la pc pa dg st rl ch s t r x hsN (by omega) (by omega) hs hk hx h1 (by omega) C
  | succ m ih =>
    intro t vs es lc la pc pa ht hU hV
    have em : (m + 1) * (1 + B1) + 1 = m * (1 + B1) + 1 + (1 + B1) := by rw [Nat.add_mul]; omega
    rw [em] at hU hV ⊢
    obtain ⟨vs1, es1, lc1, la1, pc1, pa1, c1, d1, i1, i2, i3, i4, X1, Y1⟩ := G1 vs es lc la pc pa (by omega) (by omega)
    obtain ⟨vs2, es2, lc2, la2, pc2, pa2, c2, d2, j1, j2, j3, j4, X2, Y2⟩ := ih (t + 1) vs1 es1 lc1 la1 pc1 pa1 (by omega) (by omega) (by omega)
    refine ⟨vs2, es2, lc2, la2, pc2, pa2, 1 + c1 + c2, 1 + d1 + d2, by omega, by omega, by omega, by omega, ?_, ?_⟩
    · intro W R n step b ps pt pr hb hc hs C
      have e1 : n + (1 + c1 + c2) = n + c2 + c1 + 1 := by omega
      rw [e1]
      refine R.2.2.2.2.2.2.2.2.1 (n + c2 + c1) step b vs es lc la pc pa ps pt pr s t r x q hsN (by omega) (by omega) hs hk hx h1 hq h2 (by omega) (by omega) ?_
      intro ps' pt' pr' a1 k1 k2
      refine sk_x2 X1 X2 R (by omega) (by omega) (by omega) k1 k2 ?_
      intro ps2 pt2 pr2 a2
      have e2 : step + 1 + c1 + c2 = step + (1 + c1 + c2) := by omega
      rw [e2]
      exact C _ _ _ (sk_ag_tr a1 a2 (Nat.le_refl _))
    · intro W R n k b dg st rl ch hb hc hs C
      have e1 : n + (1 + d1 + d2) = n + d2 + d1 + 1 := by omega
      rw [e1]
      refine R.2.2.2.2.2.2.2.2.2.2.2.2.1 _ k b vs es lc la pc pa dg st rl ch s t r x q hsN (by omega) (by omega) hs hk hx h1 hq h2 (by omega) ?_
      intro dg1 st1 rl1 ch1 a1 k1 k2
      refine Y1 W R _ (k + 1) (b + 1) dg1 st1 rl1 ch1 (by omega) (by omega) k2 ?_
      intro dg2 st2 rl2 ch2 a2
      refine Y2 W R n (k + 1 + d1) b dg2 st2 rl2 ch2 (by omega) (by omega) (sk_stk_a4 k1 a2 (by omega)) ?_
      intro dg3 st3 rl3 ch3 a3
      have e2 : k + 1 + d1 + d2 = k + (1 + d1 + d2) := by omega
      rw [e2]
      exact C _ _ _ _ (sk_a4_tr (sk_a4_tr a1 a2 (by omega)) a3 (by omega))
theorem sk_g5 {s p q : Nat} {r : Bool} (hsN : s < N) (hk : sk s = 5) (hp : p < M) (h1 : sx s = nI p) (hq : q < N) (h2 : sy s = nI q) (hw : sk_w sw q + 1 ≤ sk_w sw s) (wq : 1 ≤ sk_w sw q) {B1 U V : Nat} (hU0 : U ≤ 2 ^ 30)
    (E : ∀ (vs es : sk_F) (lc : Nat) (la : sk_F), lc + 31 ≤ 2 ^ 30 → ∃ (v : Int32) (lc' : Nat) (la' : sk_F), lc' ≤ lc + 30 ∧ sk_EvX M ek ex ew od vs es p lc la v lc' la' ∧ sk_EvY M ek ex ey ez ew vs es p lc la v lc' la')
    (G1 : ∀ (vs es : sk_F) (lc : Nat) (la : sk_F) (pc : Nat) (pa : sk_F), lc + 31 * B1 ≤ U → pc + B1 ≤ V → sk_G M N ek ex ey ez ew od sec sk sx sy sz sw q 0 r vs es lc la pc pa B1) :
    ∀ (m t : Nat) (vs es : sk_F) (lc : Nat) (la : sk_F) (pc : Nat) (pa : sk_F), t + m = 6 → lc + 31 * (m * (1 + B1) + 1) ≤ U → pc + (m * (1 + B1) + 1) ≤ V → sk_G M N ek ex ey ez ew od sec sk sx sy sz sw s t r vs es lc la pc pa (m * (1 + B1) + 1) := by
  intro m
  induction m with
  | zero =>
    intro t vs es lc la pc pa ht hU hV
    refine ⟨vs, es, lc, la, pc, pa, 1, 1, by omega, by omega, by omega, by omega, ?_, ?_⟩
    · intro W R n step b ps pt pr hb hc hs C
      exact R.2.2.2.2.2.2.2.2.2.2.2.2.1 n step b vs es lc la pc pa ps pt pr s t r hsN (by omega) (by omega) hs hk (by omega) (C ps pt pr (fun _ _ => ⟨rfl, rfl, rfl⟩))
    · intro W R n k b dg st rl ch hb hc hs C
      exact R.2.2.2.2.2.2.2.2.2.2.2.2.2.2.2.2.1 n k b vs es lc la pc pa dg st rl ch s t r hsN (by omega) (by omega) hs hk (by omega) C
  | succ m ih =>
    intro t vs es lc la pc pa ht hU hV
    have em : (m + 1) * (1 + B1) + 1 = m * (1 + B1) + 1 + (1 + B1) := by rw [Nat.add_mul]; omega
    rw [em] at hU hV ⊢
    obtain ⟨v, lc', la', hl, X, Y⟩ := E vs es lc la (by omega)
    by_cases hv : v = 0
    · refine ⟨vs, es, lc' + 1, (sk_put 200 lc' la' 2), pc, pa, 1, 1, by omega, by omega, by omega, by omega, ?_, ?_⟩
      · intro W R n step b ps pt pr hb hc hs C
        exact R.2.2.2.2.2.2.2.2.2.2.2.1 n step b vs es lc la pc pa ps pt pr s t r p v lc' la' hsN (by omega) (by omega) hs hk hp h1 (by omega) X (by omega) hv (C ps pt pr (fun _ _ => ⟨rfl, rfl, rfl⟩))
      · intro W R n k b dg st rl ch hb hc hs C
        exact R.2.2.2.2.2.2.2.2.2.2.2.2.2.2.2.1 n k b vs es lc la pc pa dg st rl ch s t r p v lc' la' hsN (by omega) (by omega) hs hk hp h1 (by omega) Y (by omega) hv C
    · obtain ⟨vs1, es1, lc1, la1, pc1, pa1, c1, d1, i1, i2, i3, i4, X1, Y1⟩ := G1 vs es (lc' + 1) (sk_put 200 lc' la' 3) pc pa (by omega) (by omega)
      obtain ⟨vs2, es2, lc2, la2, pc2, pa2, c2, d2, j1, j2, j3, j4, X2, Y2⟩ := ih (t + 1) vs1 es1 lc1 la1 pc1 pa1 (by omega) (by omega) (by omega)
      refine ⟨vs2, es2, lc2, la2, pc2, pa2, 1 + c1 + c2, 1 + d1 + d2, by omega, by omega, by omega, by omega, ?_, ?_⟩
      · intro W R n step b ps pt pr hb hc hs C
        have e1 : n + (1 + c1 + c2) = n + c2 + c1 + 1 := by omega
        rw [e1]
        refine R.2.2.2.2.2.2.2.2.2.2.1 (n + c2 + c1) step b vs es lc la pc pa ps pt pr s t r p q v lc' la' hsN (by omega) (by omega) hs hk hp h1 (by omega) X (by omega) hq h2 hv (by omega) ?_
        intro ps' pt' pr' a1 k1 k2
        refine sk_x2 X1 X2 R (by omega) (by omega) (by omega) k1 k2 ?_
        intro ps2 pt2 pr2 a2
        have e2 : step + 1 + c1 + c2 = step + (1 + c1 + c2) := by omega
        rw [e2]
        exact C _ _ _ (sk_ag_tr a1 a2 (Nat.le_refl _))
      · intro W R n k b dg st rl ch hb hc hs C
        have e1 : n + (1 + d1 + d2) = n + d2 + d1 + 1 := by omega
        rw [e1]
        refine R.2.2.2.2.2.2.2.2.2.2.2.2.2.2.1 _ k b vs es lc la pc pa dg st rl ch s t r p q v lc' la' hsN (by omega) (by omega) hs hk hp h1 (by omega) Y (by omega) hq h2 hv ?_
        intro dg1 st1 rl1 ch1 a1 k1 k2
        refine Y1 W R _ (k + 1) (b + 1) dg1 st1 rl1 ch1 (by omega) (by omega) k2 ?_
        intro dg2 st2 rl2 ch2 a2
        refine Y2 W R n (k + 1 + d1) b dg2 st2 rl2 ch2 (by omega) (by omega) (sk_stk_a4 k1 a2 (by omega)) ?_
        intro dg3 st3 rl3 ch3 a3
        have e2 : k + 1 + d1 + d2 = k + (1 + d1 + d2) := by omega
        rw [e2]
        exact C _ _ _ _ (sk_a4_tr (sk_a4_tr a1 a2 (by omega)) a3 (by omega))
end
end
section
/-! 04: statements as they must be; what is safe; every statement does the same on both machines -/
def sk_stm (M : Nat) (ew sk sx sy sz sw dp : sk_F) (s : Nat) : Prop :=
  (sw s = nI (sk_w sw s) ∧ dp s = nI (sk_w dp s) ∧ 1 ≤ sk_w sw s ∧ sk_w sw s ≤ 30 ∧ sk_w dp s ≤ 3) ∧
  ((sk s = 0 ∧ ∃ x p, x < 8 ∧ p < M ∧ sx s = nI x ∧ sy s = nI p)
  ∨ (sk s = 1 ∧ ∃ a p q, a < 2 ∧ p < M ∧ q < M ∧ sx s = nI a ∧ sy s = nI p ∧ sz s = nI q ∧ sk_w ew p + sk_w ew q ≤ 30)
  ∨ (sk s = 2 ∧ ∃ p q, p < s ∧ q < s ∧ sx s = nI p ∧ sy s = nI q ∧ sk_w sw s = sk_w sw p + sk_w sw q + 1 ∧ sk_w dp p ≤ sk_w dp s ∧ sk_w dp q ≤ sk_w dp s)
  ∨ (sk s = 3 ∧ ∃ p q, p < M ∧ q < s ∧ sx s = nI p ∧ sy s = nI q ∧ sk_w dp q ≤ sk_w dp s ∧ sk_w sw q + 1 ≤ sk_w sw s ∧ (sz s = -1 ∨ ∃ z, z < s ∧ sz s = nI z ∧ sk_w dp z ≤ sk_w dp s ∧ sk_w sw q + sk_w sw z + 1 ≤ sk_w sw s))
  ∨ (sk s = 4 ∧ ∃ x q, x ≤ 6 ∧ q < s ∧ sx s = nI x ∧ sy s = nI q ∧ sk_w sw q + 1 ≤ sk_w sw s ∧ sk_w dp s = sk_w dp q + 1)
  ∨ (sk s = 5 ∧ ∃ p q, p < M ∧ q < s ∧ sx s = nI p ∧ sy s = nI q ∧ sk_w sw q + 1 ≤ sk_w sw s ∧ sk_w dp s = sk_w dp q + 1)
  ∨ (sk s = 6 ∧ ∃ p, p < M ∧ sx s = nI p))
def sk_in (so sh : sk_F) (hd : Bool) (x : Int32) : Prop := x = -1 ∨ ¬ (if hd then sh x.toNatClampNeg else so x.toNatClampNeg) = 0
/-- statement s is safe in a place (hd: the hidden one) -/
def sk_sf (lab sec rdo sk sx sy sz so sh : sk_F) (hd : Bool) (s : Nat) : Prop :=
  if sk s = 0 then ¬ rdo (sy s).toNatClampNeg = 0 ∧ (¬ lab (sx s).toNatClampNeg = 0 ∨ (hd = false ∧ sec (sy s).toNatClampNeg = 0))
  else if sk s = 1 then ¬ rdo (sy s).toNatClampNeg = 0 ∧ ¬ rdo (sz s).toNatClampNeg = 0 ∧ sec (sy s).toNatClampNeg = 0 ∧ (¬ lab (8 + sx s).toNatClampNeg = 0 ∨ (hd = false ∧ sec (sz s).toNatClampNeg = 0))
  else if sk s = 2 then sk_in so sh hd (sx s) ∧ sk_in so sh hd (sy s)
  else if sk s = 3 then ¬ rdo (sx s).toNatClampNeg = 0 ∧ sk_in so sh (hd || decide (¬ sec (sx s).toNatClampNeg = 0)) (sy s) ∧ sk_in so sh (hd || decide (¬ sec (sx s).toNatClampNeg = 0)) (sz s)
  else if sk s = 4 then sk_in so sh hd (sy s)
  else if sk s = 5 then hd = false ∧ ¬ rdo (sx s).toNatClampNeg = 0 ∧ sec (sx s).toNatClampNeg = 0 ∧ sk_in so sh false (sy s)
  else hd = false ∧ ¬ rdo (sx s).toNatClampNeg = 0 ∧ sec (sx s).toNatClampNeg = 0
def sk_sfe (lab sec rdo sk sx sy sz so sh : sk_F) (s : Nat) : Prop := (¬ so s = 0 ↔ sk_sf lab sec rdo sk sx sy sz so sh false s) ∧ (¬ sh s = 0 ↔ sk_sf lab sec rdo sk sx sy sz so sh true s)
def sk_ok (so sh : sk_F) (s : Nat) (r : Bool) : Prop := (r = true ∧ ¬ so s = 0) ∨ ¬ sh s = 0
section
variable {M N : Nat} {ek ex ey ez ew px py pz od lab sec rdo sk sx sy sz sw dp so sh : sk_F}
theorem sk_in_n {hd : Bool} {p : Nat} (hp : p < 50) (h : sk_in so sh hd (nI p)) : ¬ (if hd then sh p else so p) = 0 := by
  rcases h with h | h
  · exact absurd h (sk_m1 (by omega))
  · rw [nI_clamp (by omega)] at h
    exact h
theorem sk_ok2 {s p q : Nat} {r : Bool} (hf : sk_sfe lab sec rdo sk sx sy sz so sh s) (hp : p < 50) (hq : q < 50) (hk : sk s = 2) (h1 : sx s = nI p) (h2 : sy s = nI q) (h : sk_ok so sh s r) : sk_ok so sh p r ∧ sk_ok so sh q r := by
  rcases h with ⟨hr, h⟩ | h
  · have f := hf.1.mp h
    simp only [sk_sf, hk, h1, h2] at f
    exact ⟨Or.inl ⟨hr, sk_in_n hp f.1⟩, Or.inl ⟨hr, sk_in_n hq f.2⟩⟩
  · have f := hf.2.mp h
    simp only [sk_sf, hk, h1, h2] at f
    exact ⟨Or.inr (sk_in_n hp f.1), Or.inr (sk_in_n hq f.2)⟩
theorem sk_ok3s {s p q : Nat} {r : Bool} (hf : sk_sfe lab sec rdo sk sx sy sz so sh s) (hp : p < 50) (hq : q < 50) (hk : sk s = 3) (h1 : sx s = nI p) (h2 : sy s = nI q) (hs : ¬ sec p = 0) (h : sk_ok so sh s r) : ¬ sh q = 0 ∧ ∀ z, z < 50 → sz s = nI z → ¬ sh z = 0 := by
  rcases h with ⟨hr, h⟩ | h
  · have f := hf.1.mp h
    simp only [sk_sf, hk, h1, h2, nI_clamp (show p < 2 ^ 31 by omega), hs] at f
    exact ⟨sk_in_n (hd := true) hq f.2.1, fun z hz hz2 => sk_in_n (hd := true) hz (hz2 ▸ f.2.2)⟩
  · have f := hf.2.mp h
    simp only [sk_sf, hk, h1, h2, nI_clamp (show p < 2 ^ 31 by omega), hs] at f
    exact ⟨sk_in_n (hd := true) hq f.2.1, fun z hz hz2 => sk_in_n (hd := true) hz (hz2 ▸ f.2.2)⟩
theorem sk_ok3p {s p q : Nat} {r : Bool} (hf : sk_sfe lab sec rdo sk sx sy sz so sh s) (hp : p < 50) (hq : q < 50) (hk : sk s = 3) (h1 : sx s = nI p) (h2 : sy s = nI q) (hs : sec p = 0) (h : sk_ok so sh s r) : sk_ok so sh q r ∧ ∀ z, z < 50 → sz s = nI z → sk_ok so sh z r := by
  rcases h with ⟨hr, h⟩ | h
  · have f := hf.1.mp h
    simp only [sk_sf, hk, h1, h2, nI_clamp (show p < 2 ^ 31 by omega), hs] at f
    exact ⟨Or.inl ⟨hr, sk_in_n (hd := false) hq f.2.1⟩, fun z hz hz2 => Or.inl ⟨hr, sk_in_n (hd := false) hz (hz2 ▸ f.2.2)⟩⟩
  · have f := hf.2.mp h
    simp only [sk_sf, hk, h1, h2, nI_clamp (show p < 2 ^ 31 by omega), hs] at f
    exact ⟨Or.inr (sk_in_n (hd := true) hq f.2.1), fun z hz hz2 => Or.inr (sk_in_n (hd := true) hz (hz2 ▸ f.2.2))⟩
theorem sk_ok4 {s q : Nat} {r : Bool} (hf : sk_sfe lab sec rdo sk sx sy sz so sh s) (hq : q < 50) (hk : sk s = 4) (h2 : sy s = nI q) (h : sk_ok so sh s r) : sk_ok so sh q r := by
  rcases h with ⟨hr, h⟩ | h
  · have f := hf.1.mp h
    simp only [sk_sf, hk, h2] at f
    exact Or.inl ⟨hr, sk_in_n (hd := false) hq f⟩
  · have f := hf.2.mp h
    simp only [sk_sf, hk, h2] at f
    exact Or.inr (sk_in_n (hd := true) hq f)
theorem sk_ok5 {s q : Nat} {r : Bool} (hf : sk_sfe lab sec rdo sk sx sy sz so sh s) (hq : q < 50) (hk : sk s = 5) (h2 : sy s = nI q) (h : sk_ok so sh s r) : sk_ok so sh q r := by
  rcases h with ⟨hr, h⟩ | h
  · have f := hf.1.mp h
    simp only [sk_sf, hk, h2] at f
    exact Or.inl ⟨hr, sk_in_n (hd := false) hq f.2.2.2⟩
  · have f := hf.2.mp h
    simp only [sk_sf, hk, h2] at f
    exact absurd f.1 (by decide)
theorem sk_ok6 {s : Nat} {r : Bool} (hf : sk_sfe lab sec rdo sk sx sy sz so sh s) (hk : sk s = 6) (h : sk_ok so sh s r) : r = true := by
  rcases h with ⟨hr, h⟩ | h
  · exact hr
  · have f := hf.2.mp h
    simp only [sk_sf, hk] at f
    exact absurd f.1 (by decide)
/-- every statement that may be executed does one thing, on both machines -/
theorem sk_R (hN : N ≤ 40) (hM : M ≤ 50) (HE : ∀ e, e < M → sk_node ek ex ey ez ew px py pz od e) (HS : ∀ s, s < N → sk_stm M ew sk sx sy sz sw dp s) (HF : ∀ s, s < N → sk_sfe lab sec rdo sk sx sy sz so sh s) :
    ∀ s, s < N → ∀ (r : Bool) (vs es : sk_F) (lc : Nat) (la : sk_F) (pc : Nat) (pa : sk_F), sk_ok so sh s r → lc + 31 * (sk_K (sk_w dp s) * sk_w sw s) ≤ 2 ^ 30 → pc + sk_K (sk_w dp s) * sk_w sw s ≤ 2 ^ 30 →
      sk_G M N ek ex ey ez ew od sec sk sx sy sz sw s 0 r vs es lc la pc pa (sk_K (sk_w dp s) * sk_w sw s) := by
  intro s
  induction s using Nat.strongRecOn with
  | ind s ih =>
    intro hs r vs es lc la pc pa hok hlc hpc
    have hE : ∀ p, p < M → ∀ (vs es : sk_F) (lc : Nat) (la : sk_F), lc + 31 ≤ 2 ^ 30 → ∃ (v : Int32) (lc' : Nat) (la' : sk_F), lc' ≤ lc + sk_w ew p ∧ sk_EvX M ek ex ew od vs es p lc la v lc' la' ∧ sk_EvY M ek ex ey ez ew vs es p lc la v lc' la' := by
      intro p hp vs es lc la hl
      have := (HE p hp).1.2.1
      exact sk_E_all HE p hp lc la (by omega)
    have hE30 : ∀ p, p < M → sk_w ew p ≤ 30 := fun p hp => (HE p hp).1.2.1
    have hS1 : ∀ p, p < N → 1 ≤ sk_w sw p := fun p hp => (HS p hp).1.2.2.1
    have hf := HF s hs
    obtain ⟨⟨_, _, hw1, hw30, hd3⟩, hc⟩ := HS s hs
    have hB3 : 3 ≤ sk_K (sk_w dp s) * sk_w sw s := Nat.le_trans (sk_K3 _) (Nat.le_mul_of_pos_right _ hw1)
    have hK3 := sk_K3 (sk_w dp s)
    rcases hc with ⟨hk, x, p, hx, hp, h1, h2⟩ | ⟨hk, a, p, q, ha, hp, hq, h1, h2, h3, hww⟩ | ⟨hk, p, q, hp, hq, h1, h2, hw, d1, d2⟩ | ⟨hk, p, q, hp, hq, h1, h2, d1, hwq, hz⟩ | ⟨hk, x, q, hx, hq, h1, h2, hwq, hd⟩ | ⟨hk, p, q, hp, hq, h1, h2, hwq, hd⟩ | ⟨hk, p, hp, h1⟩
    · obtain ⟨v, lc', la', l, X, Y⟩ := hE p hp vs es lc la (by omega)
      exact sk_g0 hs hk hx h1 hp h2 hw1 X Y (by have := hE30 p hp; omega) (by omega)
    · obtain ⟨v0, lc0, la0, l0, X0, Y0⟩ := hE p hp vs es lc la (by omega)
      obtain ⟨v, lc', la', l, X, Y⟩ := hE q hq vs es lc0 la0 (by have := hE30 p hp; omega)
      exact sk_g1 hs hk ha h1 hp h2 hq h3 hw1 X0 Y0 X Y (by omega) (by omega) (by omega)
    · have hb := sk_b2 hK3 (sk_Km d1) (sk_Km d2) (Nat.le_refl _) (Nat.le_refl _) (w := sk_w sw s) (Nat.le_of_eq hw.symm)
      obtain ⟨o1, o2⟩ := sk_ok2 hf (by omega) (by omega) hk h1 h2 hok
      refine sk_g2 hs hk (by omega) h1 (by omega) h2 (Nat.le_of_eq hw.symm) (hS1 p (by omega)) (hS1 q (by omega)) (ih p hp (by omega) r vs es lc la pc pa o1 (by omega) (by omega)) ?_ hb
      intro vs1 es1 lc1 la1 pc1 pa1 l1 l2
      exact ih q hq (by omega) r vs1 es1 lc1 la1 pc1 pa1 o2 (by omega) (by omega)
    · obtain ⟨v, lc', la', l, X, Y⟩ := hE p hp vs es lc la (by omega)
      have l30 : lc' ≤ lc + 30 := by have := hE30 p hp; omega
      have hb1 := sk_b1 hK3 (sk_Km d1) (Nat.le_refl _) (w := sk_w sw s) hwq
      by_cases hsec : sec p = 0
      · obtain ⟨o1, o2⟩ := sk_ok3p hf (by omega) (by omega) hk h1 h2 hsec hok
        by_cases hv : v = 0
        · rcases hz with hz | ⟨z, hz, hz2, d2, hwz⟩
          · exact sk_g3d hs hk hp h1 (by omega) h2 X Y l30 hw1 hsec hv hz (by omega) hB3
          · have hb2 := sk_b1 hK3 (sk_Km d2) (Nat.le_refl _) (w := sk_w sw s) (w1 := sk_w sw z) (by omega)
            exact sk_g3e hs hk hp h1 (by omega) h2 X Y l30 (by omega) (hS1 z (by omega)) hsec hv (by omega) hz2 (by omega) (ih z hz (by omega) r vs es (lc' + 1) (sk_put 200 lc' la' 0) pc pa (o2 z (by omega) hz2) (by omega) (by omega)) hb2
        · have hz' : sz s = -1 ∨ ∃ z, z < N ∧ sz s = nI z := by
            rcases hz with hz | ⟨z, hz, hz2, _⟩
            · exact Or.inl hz
            · exact Or.inr ⟨z, by omega, hz2⟩
          exact sk_g3c hs hk hp h1 (by omega) h2 X Y l30 hwq (hS1 q (by omega)) hsec hv hz' (by omega) (ih q hq (by omega) r vs es (lc' + 1) (sk_put 200 lc' la' 1) pc pa o1 (by omega) (by omega)) hb1
      · obtain ⟨o1, o2⟩ := sk_ok3s hf (by omega) (by omega) hk h1 h2 hsec hok
        rcases hz with hz | ⟨z, hz, hz2, d2, hwz⟩
        · exact sk_g3a hs hk hp h1 (by omega) h2 X Y l30 hwq (hS1 q (by omega)) hsec hz (ih q hq (by omega) _ vs es lc' la' pc pa (Or.inr o1) (by omega) (by omega)) hb1
        · have hb2 := sk_b2 hK3 (sk_Km d1) (sk_Km d2) (Nat.le_refl _) (Nat.le_refl _) (w := sk_w sw s) hwz
          refine sk_g3b hs hk hp h1 (by omega) h2 X Y l30 hwz (hS1 q (by omega)) (hS1 z (by omega)) hsec (by omega) hz2 (ih q hq (by omega) _ vs es lc' la' pc pa (Or.inr o1) (by omega) (by omega)) ?_ hb2
          intro vs1 es1 lc1 la1 pc1 pa1 l1 l2
          exact ih z hz (by omega) _ vs1 es1 lc1 la1 pc1 pa1 (Or.inr (o2 z (by omega) hz2)) (by omega) (by omega)
    · have o1 := sk_ok4 hf (by omega) hk h2 hok
      have hb := sk_b4 (sk_K3 (sk_w dp q)) hwq
      rw [← sk_Ks, ← hd] at hb
      have hx1 : x * (1 + sk_K (sk_w dp q) * sk_w sw q) ≤ 6 * (1 + sk_K (sk_w dp q) * sk_w sw q) := Nat.mul_le_mul_right _ hx
      have G := sk_g4 (ek := ek) (ex := ex) (ey := ey) (ez := ez) (ew := ew) (od := od) (sec := sec) (M := M) (sz := sz) (r := r) hs hk hx h1 (by omega) h2 hwq (hS1 q (by omega)) (B1 := sk_K (sk_w dp q) * sk_w sw q) (U := 2 ^ 30) (V := 2 ^ 30) (fun vs es lc la pc pa l1 l2 => ih q hq (by omega) r vs es lc la pc pa o1 l1 l2) x 0 vs es lc la pc pa (by omega) (by omega) (by omega)
      obtain ⟨vs1, es1, lc1, la1, pc1, pa1, c1, d1, i1, i2, i3, i4, X1, Y1⟩ := G
      exact ⟨vs1, es1, lc1, la1, pc1, pa1, c1, d1, i1, by omega, i3, i4, X1, Y1⟩
    · have o1 := sk_ok5 hf (by omega) hk h2 hok
      have hb := sk_b4 (sk_K3 (sk_w dp q)) hwq
      rw [← sk_Ks, ← hd] at hb
      have G := sk_g5 (r := r) (od := od) (ek := ek) (ex := ex) (ey := ey) (ez := ez) (ew := ew) (sec := sec) (sz := sz) hs hk hp h1 (by omega) h2 hwq (hS1 q (by omega)) (B1 := sk_K (sk_w dp q) * sk_w sw q) (U := 2 ^ 30) (V := 2 ^ 30) (Nat.le_refl _)
        (fun vs es lc la hl => by obtain ⟨v, lc', la', l, X, Y⟩ := hE p hp vs es lc la hl; exact ⟨v, lc', la', by have := hE30 p hp; omega, X, Y⟩)
        (fun vs es lc la pc pa l1 l2 => ih q hq (by omega) r vs es lc la pc pa o1 l1 l2) 6 0 vs es lc la pc pa (by omega) (by omega) (by omega)
      obtain ⟨vs1, es1, lc1, la1, pc1, pa1, c1, d1, i1, i2, i3, i4, X1, Y1⟩ := G
      exact ⟨vs1, es1, lc1, la1, pc1, pa1, c1, d1, i1, by omega, i3, i4, X1, Y1⟩
    · obtain ⟨v, lc', la', l, X, Y⟩ := hE p hp vs es lc la (by omega)
      have hr := sk_ok6 hf hk hok
      subst hr
      exact sk_g6 hs hk hp h1 hw1 X Y (by have := hE30 p hp; omega) (by omega) (by omega)
end
end
section
/-! 05: what is secret; how the tables of expressions and statements last when one is made -/
def sk_pt (x : Int32) (e : Nat) : Prop := x = -1 ∨ ∃ p, p < e ∧ x = nI p
def sk_ps (sec : sk_F) (x : Int32) : Prop := ¬ x = -1 ∧ ¬ sec x.toNatClampNeg = 0
def sk_pr (rdo : sk_F) (x : Int32) : Prop := x = -1 ∨ ¬ rdo x.toNatClampNeg = 0
/-- expression e is secret, and reads at public places alone, as its parts say -/
def sk_se (lab ek ex px py pz sec rdo : sk_F) (e : Nat) : Prop :=
  (¬ sec e = 0 ↔ ((ek e = 1 ∧ ¬ lab (ex e).toNatClampNeg = 0) ∨ (ek e = 2 ∧ ¬ lab (8 + ex e).toNatClampNeg = 0) ∨ sk_ps sec (px e) ∨ sk_ps sec (py e) ∨ sk_ps sec (pz e))) ∧
  (¬ rdo e = 0 ↔ ((ek e = 2 → ¬ sk_ps sec (py e)) ∧ sk_pr rdo (px e) ∧ sk_pr rdo (py e) ∧ sk_pr rdo (pz e)))
section
variable {M N : Nat} {ek ex ey ez ew px py pz od lab sec rdo sk sx sy sz sw dp so sh : sk_F} {ek' ex' ey' ez' ew' px' py' pz' od' sec' rdo' sk' sx' sy' sz' sw' dp' so' sh' : sk_F}
theorem sk_node_pt {e : Nat} (h : sk_node ek ex ey ez ew px py pz od e) : sk_pt (px e) e ∧ sk_pt (py e) e ∧ sk_pt (pz e) e := by
  rcases h.2 with ⟨_, _, a, b, c⟩ | ⟨_, _, a, b, c, _⟩ | ⟨_, a, c, _, p, _, hp, _, _, b, _⟩ | ⟨_, b, c, p, hp, _, a, _⟩ | ⟨_, p, q, r, hp, hq, hr, _, _, _, a, b, c, _⟩ | ⟨_, c, p, q, hp, hq, _, _, a, b, _⟩
  · exact ⟨Or.inl a, Or.inl b, Or.inl c⟩
  · exact ⟨Or.inl a, Or.inl b, Or.inl c⟩
  · exact ⟨Or.inl a, Or.inr ⟨p, hp, b⟩, Or.inl c⟩
  · exact ⟨Or.inr ⟨p, hp, a⟩, Or.inl b, Or.inl c⟩
  · exact ⟨Or.inr ⟨p, hp, a⟩, Or.inr ⟨q, hq, b⟩, Or.inr ⟨r, hr, c⟩⟩
  · exact ⟨Or.inr ⟨p, hp, a⟩, Or.inr ⟨q, hq, b⟩, Or.inl c⟩
theorem sk_bin_ge {e : Nat} (h : sk_bin ek e) : 3 ≤ ek e := by
  obtain ⟨k, h1, h2, h3⟩ := h
  rw [h3]
  exact nI_le (a := 3) h1 (by omega)
/-- the parts as Y asks for them -/
theorem sk_node_v {e : Nat} (h : sk_node ek ex ey ez ew px py pz od e) :
    (3 ≤ ek e → px e = ex e) ∧ (¬ 3 ≤ ek e → px e = -1) ∧ ((ek e = 2 ∨ (3 ≤ ek e ∧ ¬ ek e = 13)) → py e = ey e) ∧ (¬ (ek e = 2 ∨ (3 ≤ ek e ∧ ¬ ek e = 13)) → py e = -1) ∧ (ek e = 14 → pz e = ez e) ∧ (¬ ek e = 14 → pz e = -1) := by
  rcases h.2 with ⟨k, _, a, b, c⟩ | ⟨k, _, a, b, c, _⟩ | ⟨k, a, c, _, p, _, hp, _, x2, b, _⟩ | ⟨k, b, c, p, hp, x1, a, _⟩ | ⟨k, p, q, r, hp, hq, hr, x1, x2, x3, a, b, c, _⟩ | ⟨k, c, p, q, hp, hq, x1, x2, a, b, _⟩
  · rw [k, a, b, c]
    exact ⟨fun z => absurd z (by decide), fun _ => rfl, fun z => absurd z (by decide), fun _ => rfl, fun z => absurd z (by decide), fun _ => rfl⟩
  · rw [k, a, b, c]
    exact ⟨fun z => absurd z (by decide), fun _ => rfl, fun z => absurd z (by decide), fun _ => rfl, fun z => absurd z (by decide), fun _ => rfl⟩
  · rw [k, a, b, c, x2]
    exact ⟨fun z => absurd z (by decide), fun _ => rfl, fun _ => rfl, fun z => absurd (Or.inl rfl) z, fun z => absurd z (by decide), fun _ => rfl⟩
  · rw [k, a, b, c, x1]
    exact ⟨fun _ => rfl, fun z => absurd (by decide) z, fun z => absurd z (by decide), fun _ => rfl, fun z => absurd z (by decide), fun _ => rfl⟩
  · rw [k, a, b, c, x1, x2, x3]
    exact ⟨fun _ => rfl, fun z => absurd (by decide) z, fun _ => rfl, fun z => absurd (by decide) z, fun _ => rfl, fun z => absurd rfl z⟩
  · obtain ⟨_, _, n2, n13, n14⟩ := sk_bin_ne k
    have g3 := sk_bin_ge k
    rw [a, b, c, x1, x2]
    exact ⟨fun _ => rfl, fun z => absurd g3 z, fun _ => rfl, fun z => absurd (Or.inr ⟨g3, n13⟩) z, fun z => absurd z n14, fun _ => rfl⟩
theorem sk_ps_up {x : Int32} {e : Nat} (h : sk_pt x e) (he : e ≤ 50) (ag : ∀ j, j < e → sec' j = sec j) : sk_ps sec' x ↔ sk_ps sec x := by
  rcases h with h | ⟨p, hp, h⟩
  · unfold sk_ps
    exact ⟨fun z => absurd h z.1, fun z => absurd h z.1⟩
  · unfold sk_ps
    rw [h, nI_clamp (by omega), ag p hp]
theorem sk_pr_up {x : Int32} {e : Nat} (h : sk_pt x e) (he : e ≤ 50) (ag : ∀ j, j < e → rdo' j = rdo j) : sk_pr rdo' x ↔ sk_pr rdo x := by
  rcases h with h | ⟨p, hp, h⟩
  · unfold sk_pr
    exact ⟨fun _ => Or.inl h, fun _ => Or.inl h⟩
  · unfold sk_pr
    rw [h, nI_clamp (by omega), ag p hp]
/-- an expression's own equation lasts when nothing up to it changes -/
theorem sk_se_up {e : Nat} (h : sk_se lab ek ex px py pz sec rdo e) (he : e ≤ 50) (hp : sk_pt (px e) e ∧ sk_pt (py e) e ∧ sk_pt (pz e) e)
    (ag : ∀ j, j < e + 1 → ek' j = ek j ∧ ex' j = ex j ∧ px' j = px j ∧ py' j = py j ∧ pz' j = pz j ∧ sec' j = sec j ∧ rdo' j = rdo j) : sk_se lab ek' ex' px' py' pz' sec' rdo' e := by
  obtain ⟨a1, a2, a3, a4, a5, a6, a7⟩ := ag e (by omega)
  unfold sk_se
  rw [a1, a2, a3, a4, a5, a6, a7]
  have as : ∀ j, j < e → sec' j = sec j := fun j hj => (ag j (by omega)).2.2.2.2.2.1
  have ar : ∀ j, j < e → rdo' j = rdo j := fun j hj => (ag j (by omega)).2.2.2.2.2.2
  rw [sk_ps_up hp.1 he as, sk_ps_up hp.2.1 he as, sk_ps_up hp.2.2 he as, sk_pr_up hp.1 he ar, sk_pr_up hp.2.1 he ar, sk_pr_up hp.2.2 he ar]
  exact h
theorem sk_seg_up {b p e : Nat} (hp : p ≤ e) (hb : b + sk_w ew p ≤ 30 * (e + 1)) (hw : 30 * p + sk_w ew p ≤ 30 * (e + 1)) (aw : ew' p = ew p) (ag : ∀ j, j < 30 * (e + 1) → od' j = od j) (h : sk_seg ew od b p) : sk_seg ew' od' b p := by
  intro j hj
  have e1 : sk_w ew' p = sk_w ew p := by unfold sk_w; rw [aw]
  rw [e1] at hj
  rw [ag _ (by omega), ag _ (by omega)]
  exact h j hj
/-- a node lasts when nothing up to it changes -/
theorem sk_node_up {e : Nat} (h : sk_node ek ex ey ez ew px py pz od e) (ag : ∀ j, j < e + 1 → ek' j = ek j ∧ ex' j = ex j ∧ ey' j = ey j ∧ ez' j = ez j ∧ ew' j = ew j ∧ px' j = px j ∧ py' j = py j ∧ pz' j = pz j)
    (ao : ∀ j, j < 30 * (e + 1) → od' j = od j) : sk_node ek' ex' ey' ez' ew' px' py' pz' od' e := by
  obtain ⟨a1, a2, a3, a4, a5, a6, a7, a8⟩ := ag e (by omega)
  have ew1 : ∀ p, p < e + 1 → sk_w ew' p = sk_w ew p := fun p hp => by unfold sk_w; rw [(ag p hp).2.2.2.2.1]
  have eb : sk_bin ek' e ↔ sk_bin ek e := by unfold sk_bin; rw [a1]
  obtain ⟨⟨h1, h2, h3⟩, hc⟩ := h
  refine ⟨⟨by rw [ew1 e (by omega), a5]; exact h1, by rw [ew1 e (by omega)]; exact h2, by rw [ew1 e (by omega), ao _ (by omega)]; exact h3⟩, ?_⟩
  rw [a1, a2, a3, a4, a6, a7, a8, eb, ew1 e (by omega)]
  rcases hc with hc | hc | ⟨k, a, c, x, p, hx, hp, x1, x2, b, hw, s0⟩ | ⟨k, b, c, p, hp, x1, a, hw, s0⟩ | ⟨k, p, q, r, hp, hq, hr, x1, x2, x3, a, b, c, hw, s0, s1, s2⟩ | ⟨k, c, p, q, hp, hq, x1, x2, a, b, hw, s0, s1⟩
  · exact Or.inl hc
  · exact Or.inr (Or.inl hc)
  · refine Or.inr (Or.inr (Or.inl ⟨k, a, c, x, p, hx, hp, x1, x2, b, by rw [ew1 p (by omega)]; exact hw, ?_⟩))
    exact sk_seg_up (e := e) (by omega) (by omega) (by omega) (ag p (by omega)).2.2.2.2.1 ao s0
  · refine Or.inr (Or.inr (Or.inr (Or.inl ⟨k, b, c, p, hp, x1, a, by rw [ew1 p (by omega)]; exact hw, ?_⟩)))
    exact sk_seg_up (e := e) (by omega) (by omega) (by omega) (ag p (by omega)).2.2.2.2.1 ao s0
  · refine Or.inr (Or.inr (Or.inr (Or.inr (Or.inl ⟨k, p, q, r, hp, hq, hr, x1, x2, x3, a, b, c, ?_⟩))))
    rw [ew1 p (by omega), ew1 q (by omega), ew1 r (by omega)]
    exact ⟨hw, sk_seg_up (e := e) (by omega) (by omega) (by omega) (ag p (by omega)).2.2.2.2.1 ao s0, sk_seg_up (e := e) (by omega) (by omega) (by omega) (ag q (by omega)).2.2.2.2.1 ao s1, sk_seg_up (e := e) (by omega) (by omega) (by omega) (ag r (by omega)).2.2.2.2.1 ao s2⟩
  · refine Or.inr (Or.inr (Or.inr (Or.inr (Or.inr ⟨k, c, p, q, hp, hq, x1, x2, a, b, ?_⟩))))
    rw [ew1 p (by omega), ew1 q (by omega)]
    exact ⟨hw, sk_seg_up (e := e) (by omega) (by omega) (by omega) (ag p (by omega)).2.2.2.2.1 ao s0, sk_seg_up (e := e) (by omega) (by omega) (by omega) (ag q (by omega)).2.2.2.2.1 ao s1⟩
/-- a statement lasts when an expression is made -/
theorem sk_stm_upE {s : Nat} (h : sk_stm M ew sk sx sy sz sw dp s) (ag : ∀ j, j < M → ew' j = ew j) : sk_stm (M + 1) ew' sk sx sy sz sw dp s := by
  have ew1 : ∀ p, p < M → sk_w ew' p = sk_w ew p := fun p hp => by unfold sk_w; rw [ag p hp]
  refine ⟨h.1, ?_⟩
  rcases h.2 with ⟨k, x, p, hx, hp, r⟩ | ⟨k, a, p, q, ha, hp, hq, x1, x2, x3, r⟩ | h2 | ⟨k, p, q, hp, r⟩ | h2 | ⟨k, p, q, hp, r⟩ | ⟨k, p, hp, r⟩
  · exact Or.inl ⟨k, x, p, hx, by omega, r⟩
  · exact Or.inr (Or.inl ⟨k, a, p, q, ha, by omega, by omega, x1, x2, x3, by rw [ew1 p hp, ew1 q hq]; exact r⟩)
  · exact Or.inr (Or.inr (Or.inl h2))
  · exact Or.inr (Or.inr (Or.inr (Or.inl ⟨k, p, q, by omega, r⟩)))
  · exact Or.inr (Or.inr (Or.inr (Or.inr (Or.inl h2))))
  · exact Or.inr (Or.inr (Or.inr (Or.inr (Or.inr (Or.inl ⟨k, p, q, by omega, r⟩)))))
  · exact Or.inr (Or.inr (Or.inr (Or.inr (Or.inr (Or.inr ⟨k, p, by omega, r⟩)))))
/-- and when a later statement is made -/
theorem sk_stm_upS {s : Nat} (h : sk_stm M ew sk sx sy sz sw dp s) (ag : ∀ j, j < s + 1 → sk' j = sk j ∧ sx' j = sx j ∧ sy' j = sy j ∧ sz' j = sz j ∧ sw' j = sw j ∧ dp' j = dp j) : sk_stm M ew sk' sx' sy' sz' sw' dp' s := by
  obtain ⟨a1, a2, a3, a4, a5, a6⟩ := ag s (by omega)
  have e1 : ∀ p, p < s + 1 → sk_w sw' p = sk_w sw p := fun p hp => by unfold sk_w; rw [(ag p hp).2.2.2.2.1]
  have e2 : ∀ p, p < s + 1 → sk_w dp' p = sk_w dp p := fun p hp => by unfold sk_w; rw [(ag p hp).2.2.2.2.2]
  unfold sk_stm
  rw [a1, a2, a3, a4, a5, a6, e1 s (by omega), e2 s (by omega)]
  refine ⟨h.1, ?_⟩
  rcases h.2 with h2 | h2 | ⟨k, p, q, hp, hq, r⟩ | ⟨k, p, q, hp, hq, x1, x2, d, w, r⟩ | ⟨k, x, q, hx, hq, r⟩ | ⟨k, p, q, hp, hq, r⟩ | h2
  · exact Or.inl h2
  · exact Or.inr (Or.inl h2)
  · exact Or.inr (Or.inr (Or.inl ⟨k, p, q, hp, hq, by rw [e1 p (by omega), e1 q (by omega), e2 p (by omega), e2 q (by omega)]; exact r⟩))
  · refine Or.inr (Or.inr (Or.inr (Or.inl ⟨k, p, q, hp, hq, x1, x2, by rw [e2 q (by omega)]; exact d, by rw [e1 q (by omega)]; exact w, ?_⟩)))
    rcases r with r | ⟨z, hz, r⟩
    · exact Or.inl r
    · exact Or.inr ⟨z, hz, by rw [e1 q (by omega), e1 z (by omega), e2 z (by omega)]; exact r⟩
  · exact Or.inr (Or.inr (Or.inr (Or.inr (Or.inl ⟨k, x, q, hx, hq, by rw [e1 q (by omega), e2 q (by omega)]; exact r⟩))))
  · exact Or.inr (Or.inr (Or.inr (Or.inr (Or.inr (Or.inl ⟨k, p, q, hp, hq, by rw [e1 q (by omega), e2 q (by omega)]; exact r⟩)))))
  · exact Or.inr (Or.inr (Or.inr (Or.inr (Or.inr (Or.inr h2)))))
theorem sk_in_up {x : Int32} {s : Nat} {hd : Bool} (h : sk_pt x s) (hs : s ≤ 50) (ag : ∀ j, j < s → so' j = so j ∧ sh' j = sh j) : sk_in so' sh' hd x ↔ sk_in so sh hd x := by
  rcases h with h | ⟨p, hp, h⟩
  · unfold sk_in
    exact ⟨fun _ => Or.inl h, fun _ => Or.inl h⟩
  · unfold sk_in
    rw [h, nI_clamp (by omega), (ag p hp).1, (ag p hp).2]
theorem sk_sf_0 {hd : Bool} {s : Nat} (h : sk s = 0) : sk_sf lab sec rdo sk sx sy sz so sh hd s ↔ (¬ rdo (sy s).toNatClampNeg = 0 ∧ (¬ lab (sx s).toNatClampNeg = 0 ∨ (hd = false ∧ sec (sy s).toNatClampNeg = 0))) := by
  unfold sk_sf
  rw [h, if_pos rfl]
theorem sk_sf_1 {hd : Bool} {s : Nat} (h : sk s = 1) : sk_sf lab sec rdo sk sx sy sz so sh hd s ↔ (¬ rdo (sy s).toNatClampNeg = 0 ∧ ¬ rdo (sz s).toNatClampNeg = 0 ∧ sec (sy s).toNatClampNeg = 0 ∧ (¬ lab (8 + sx s).toNatClampNeg = 0 ∨ (hd = false ∧ sec (sz s).toNatClampNeg = 0))) := by
  unfold sk_sf
  rw [h, if_neg (by decide), if_pos rfl]
theorem sk_sf_2 {hd : Bool} {s : Nat} (h : sk s = 2) : sk_sf lab sec rdo sk sx sy sz so sh hd s ↔ (sk_in so sh hd (sx s) ∧ sk_in so sh hd (sy s)) := by
  unfold sk_sf
  rw [h, if_neg (by decide), if_neg (by decide), if_pos rfl]
theorem sk_sf_3 {hd : Bool} {s : Nat} (h : sk s = 3) : sk_sf lab sec rdo sk sx sy sz so sh hd s ↔ (¬ rdo (sx s).toNatClampNeg = 0 ∧ sk_in so sh (hd || decide (¬ sec (sx s).toNatClampNeg = 0)) (sy s) ∧ sk_in so sh (hd || decide (¬ sec (sx s).toNatClampNeg = 0)) (sz s)) := by
  unfold sk_sf
  rw [h, if_neg (by decide), if_neg (by decide), if_neg (by decide), if_pos rfl]
theorem sk_sf_4 {hd : Bool} {s : Nat} (h : sk s = 4) : sk_sf lab sec rdo sk sx sy sz so sh hd s ↔ (sk_in so sh hd (sy s)) := by
  unfold sk_sf
  rw [h, if_neg (by decide), if_neg (by decide), if_neg (by decide), if_neg (by decide), if_pos rfl]
theorem sk_sf_5 {hd : Bool} {s : Nat} (h : sk s = 5) : sk_sf lab sec rdo sk sx sy sz so sh hd s ↔ (hd = false ∧ ¬ rdo (sx s).toNatClampNeg = 0 ∧ sec (sx s).toNatClampNeg = 0 ∧ sk_in so sh false (sy s)) := by
  unfold sk_sf
  rw [h, if_neg (by decide), if_neg (by decide), if_neg (by decide), if_neg (by decide), if_neg (by decide), if_pos rfl]
theorem sk_sf_6 {hd : Bool} {s : Nat} (h : sk s = 6) : sk_sf lab sec rdo sk sx sy sz so sh hd s ↔ (hd = false ∧ ¬ rdo (sx s).toNatClampNeg = 0 ∧ sec (sx s).toNatClampNeg = 0) := by
  unfold sk_sf
  rw [h, if_neg (by decide), if_neg (by decide), if_neg (by decide), if_neg (by decide), if_neg (by decide), if_neg (by decide)]
/-- what is safe lasts when nothing that is asked changes -/
theorem sk_sf_up {s : Nat} {hd : Bool} (hM : M ≤ 50) (hs : s ≤ 50) (h : sk_stm M ew sk sx sy sz sw dp s) (ae : ∀ j, j < M → sec' j = sec j ∧ rdo' j = rdo j) (as : ∀ j, j < s → so' j = so j ∧ sh' j = sh j)
    (ag : sk' s = sk s ∧ sx' s = sx s ∧ sy' s = sy s ∧ sz' s = sz s) : sk_sf lab sec' rdo' sk' sx' sy' sz' so' sh' hd s ↔ sk_sf lab sec rdo sk sx sy sz so sh hd s := by
  obtain ⟨a1, a2, a3, a4⟩ := ag
  have cl : ∀ p, p < M → (nI p).toNatClampNeg = p := fun p hp => nI_clamp (by omega)
  have pt : ∀ p, p < s → sk_pt (nI p) s := fun p hp => Or.inr ⟨p, hp, rfl⟩
  rcases h.2 with ⟨k, x, p, hx, hp, x1, x2⟩ | ⟨k, a, p, q, ha, hp, hq, x1, x2, x3, r⟩ | ⟨k, p, q, hp, hq, x1, x2, r⟩ | ⟨k, p, q, hp, hq, x1, x2, d, w, r⟩ | ⟨k, x, q, hx, hq, x1, x2, r⟩ | ⟨k, p, q, hp, hq, x1, x2, r⟩ | ⟨k, p, hp, x1⟩
  · rw [sk_sf_0 (a1.trans k), sk_sf_0 k, a2, a3]
    simp only [x1, x2, cl p hp, ae p hp]
  · rw [sk_sf_1 (a1.trans k), sk_sf_1 k, a2, a3, a4]
    simp only [x1, x2, x3, cl p hp, cl q hq, ae p hp, ae q hq]
  · rw [sk_sf_2 (a1.trans k), sk_sf_2 k, a2, a3, x1, x2, sk_in_up (pt p hp) hs as, sk_in_up (pt q hq) hs as]
  · have hz : sk_pt (sz s) s := by
      rcases r with r | ⟨z, hz, r, _⟩
      · exact Or.inl r
      · exact Or.inr ⟨z, hz, r⟩
    rw [sk_sf_3 (a1.trans k), sk_sf_3 k, a2, a3, a4]
    simp only [x1, x2, cl p hp, ae p hp, sk_in_up (pt q hq) hs as, sk_in_up hz hs as]
  · rw [sk_sf_4 (a1.trans k), sk_sf_4 k, a3, x2, sk_in_up (pt q hq) hs as]
  · rw [sk_sf_5 (a1.trans k), sk_sf_5 k, a2, a3]
    simp only [x1, x2, cl p hp, ae p hp, sk_in_up (pt q hq) hs as]
  · rw [sk_sf_6 (a1.trans k), sk_sf_6 k, a2]
    simp only [x1, cl p hp, ae p hp]
theorem sk_sfe_up {s : Nat} (hM : M ≤ 50) (hs : s ≤ 50) (h : sk_stm M ew sk sx sy sz sw dp s) (ae : ∀ j, j < M → sec' j = sec j ∧ rdo' j = rdo j) (as : ∀ j, j < s + 1 → so' j = so j ∧ sh' j = sh j)
    (ag : sk' s = sk s ∧ sx' s = sx s ∧ sy' s = sy s ∧ sz' s = sz s) (f : sk_sfe lab sec rdo sk sx sy sz so sh s) : sk_sfe lab sec' rdo' sk' sx' sy' sz' so' sh' s := by
  have a2 : ∀ j, j < s → so' j = so j ∧ sh' j = sh j := fun j hj => as j (by omega)
  unfold sk_sfe
  rw [sk_sf_up hM hs h ae a2 ag, sk_sf_up hM hs h ae a2 ag, (as s (by omega)).1, (as s (by omega)).2]
  exact f
end
end
section
/-! 06: X: one leak; one node; an expression worked out -/
theorem sk_put_lt {K c : Nat} {a : sk_F} {v : Int32} (h : c < K) : sk_put K c a v = upd a c v := if_pos h
theorem sk_put_ge {K c : Nat} {a : sk_F} {v : Int32} (h : K ≤ c) : sk_put K c a v = a := if_neg (by omega)
theorem sk_30 (E i : Nat) : nI E * 30 + nI i = nI (30 * E + i) := by
  rw [show (30 : Int32) = nI 30 from rfl, pk_mul, nI_add, Nat.mul_comm]
section
variable {nM nN pl : Int32} {M N lc pc b : Nat} {vs es lab ek ex ey ez px py pz ew od sec rdo sk sx sy sz sw dp so sh la pa vl ps pt pr : sk_F}
theorem sk_xadd {post : SX → Prop} {v : Int32} (h : lc < 2 ^ 30) (H : post (nM, nN, nI (lc + 1), nI pc, pl, vs, es, lab, ek, ex, px, py, pz, ew, od, sec, rdo, sk, sx, sy, sz, sw, dp, so, sh, sk_put 200 lc la v, pa, vl, ps, pt, pr)) : wpX_addLeak post (nM, nN, nI lc, nI pc, pl, vs, es, lab, ek, ex, px, py, pz, ew, od, sec, rdo, sk, sx, sy, sz, sw, dp, so, sh, la, pa, vl, ps, pt, pr) v := by
  unfold wpX_addLeak
  dsimp only
  refine pk_le 200 lc (fun h2 => ?_) (fun h2 => ?_)
  · rw [sk_put_ge h2] at H
    exact nm_r (nI_1 lc) H
  · rw [sk_put_lt h2] at H
    exact ⟨vp_in_nI h2 (by omega), nm_r (by rw [nI_clamp (by omega)]) (nm_r (nI_1 lc) H)⟩
theorem sk_xcomb {post : Int32 → Prop} {k x y : Int32} (h3 : ¬ k < 3) (h12 : ¬ 12 < k) (H : post (sk_cb k x y)) : wpX_combine post k x y := by
  unfold wpX_combine wX_combine_105
  unfold sk_cb at H
  refine br_f h3 (br_f h12 ?_)
  refine br_c (fun h => by rw [if_pos h] at H; exact H) (fun h => ?_)
  rw [if_neg h] at H
  refine br_c (fun h => by rw [if_pos h] at H; exact H) (fun h => ?_)
  rw [if_neg h] at H
  refine br_c (fun h => by rw [if_pos h] at H; exact H) (fun h => ?_)
  rw [if_neg h] at H
  refine br_c (fun h => by rw [if_pos h] at H; exact H) (fun h => ?_)
  rw [if_neg h] at H
  refine br_c (fun h => by rw [if_pos h] at H; exact H) (fun h => ?_)
  rw [if_neg h] at H
  refine br_c (fun h => by rw [if_pos h] at H; exact H) (fun h => ?_)
  rw [if_neg h] at H
  refine br_c (fun h => by rw [if_pos h] at H; exact H) (fun h => ?_)
  rw [if_neg h] at H
  refine br_c (fun h => by rw [if_pos h] at H; exact H) (fun h => ?_)
  rw [if_neg h] at H
  refine br_c (fun h => ?_) (fun h => ?_)
  · rw [if_pos h] at H
    refine br_c (fun h => by rw [if_pos h] at H; exact H) (fun h => by rw [if_neg h] at H; exact H)
  · rw [if_neg h] at H
    refine br_c (fun _ => ?_) (fun _ => trivial)
    refine br_c (fun h => by rw [if_pos h] at H; exact H) (fun h => by rw [if_neg h] at H; exact H)
theorem sk_xpar {post : Int32 → Prop} {e : Nat} (he : e < 50) (hn : sk_node ek ex ey ez ew px py pz od e) (H : post (nI (sk_ar ek e))) : wpX_partsOf post (nM, nN, nI lc, nI pc, pl, vs, es, lab, ek, ex, px, py, pz, ew, od, sec, rdo, sk, sx, sy, sz, sw, dp, so, sh, la, pa, vl, ps, pt, pr) (nI e) := by
  have i50 : vp_in (nI e) 50 := vp_in_nI he (by omega)
  have m1 : ∀ p, p < e → ¬ nI p = -1 := fun p hp => sk_m1 (by omega)
  unfold wpX_partsOf wX_partsOf_15 wX_partsOf_30
  dsimp only
  rw [nI_clamp (show e < 2 ^ 31 by omega)]
  rcases hn.2 with ⟨k, _, a, b, c⟩ | ⟨k, _, a, b, c, _⟩ | ⟨k, a, c, _, p, _, hp, _, _, b, _⟩ | ⟨k, b, c, p, hp, _, a, _⟩ | ⟨k, p, q, r, hp, hq, hr, _, _, _, a, b, c, _⟩ | ⟨k, c, p, q, hp, hq, _, _, a, b, _⟩
  · rw [sk_ar_0 k] at H
    rw [a, b, c]
    exact ⟨i50, br_t rfl ⟨i50, br_t rfl ⟨i50, br_t rfl H⟩⟩⟩
  · rw [sk_ar_1 k] at H
    rw [a, b, c]
    exact ⟨i50, br_t rfl ⟨i50, br_t rfl ⟨i50, br_t rfl H⟩⟩⟩
  · rw [sk_ar_2 k] at H
    rw [a, b, c]
    exact ⟨i50, br_t rfl ⟨i50, br_f (m1 p hp) ⟨i50, br_t rfl H⟩⟩⟩
  · rw [sk_ar_13 k] at H
    rw [a, b, c]
    exact ⟨i50, br_f (m1 p hp) ⟨i50, br_t rfl ⟨i50, br_t rfl H⟩⟩⟩
  · rw [sk_ar_14 k] at H
    rw [a, b, c]
    exact ⟨i50, br_f (m1 p hp) ⟨i50, br_f (m1 q hq) ⟨i50, br_f (m1 r hr) H⟩⟩⟩
  · rw [sk_ar_b k] at H
    rw [a, b, c]
    exact ⟨i50, br_f (m1 p hp) ⟨i50, br_f (m1 q hq) ⟨i50, br_t rfl H⟩⟩⟩
theorem sk_xval {post : Int32 → SX → Prop} {e h : Nat} (he : e < 50) (hn : sk_node ek ex ey ez ew px py pz od e) (hh : h < 30) (hlc : lc < 2 ^ 30)
    (H : post (sk_nv ek ex vs es e (vl h) (vl (h + 1)) (vl (h + 2))) (nM, nN, nI (sk_lc ek e lc), nI pc, pl, vs, es, lab, ek, ex, px, py, pz, ew, od, sec, rdo, sk, sx, sy, sz, sw, dp, so, sh, sk_la ek ex e (vl h) lc la, pa, vl, ps, pt, pr)) : wpX_valueOf post (nM, nN, nI lc, nI pc, pl, vs, es, lab, ek, ex, px, py, pz, ew, od, sec, rdo, sk, sx, sy, sz, sw, dp, so, sh, la, pa, vl, ps, pt, pr) (nI e) (nI h) := by
  have i50 : vp_in (nI e) 50 := vp_in_nI he (by omega)
  have i0 : vp_in (nI h) 32 := vp_in_nI (by omega) (by omega)
  have i1 : vp_in (nI h + 1) 32 := by rw [nI_1]; exact vp_in_nI (by omega) (by omega)
  have e2 : nI h + 2 = nI (h + 2) := by rw [show (2 : Int32) = nI 2 from rfl, nI_add]
  have i2 : vp_in (nI h + 2) 32 := by rw [e2]; exact vp_in_nI (by omega) (by omega)
  have ce := nI_clamp (show e < 2 ^ 31 by omega)
  have ch := nI_clamp (show h < 2 ^ 31 by omega)
  have c1 : (nI h + 1).toNatClampNeg = h + 1 := by rw [nI_1]; exact nI_clamp (by omega)
  have c2 : (nI h + 2).toNatClampNeg = h + 2 := by rw [e2]; exact nI_clamp (by omega)
  unfold wpX_valueOf wX_valueOf_168 wpX_placeOf
  dsimp only
  rw [ce, ch, c1, c2]
  rcases hn.2 with ⟨k, _⟩ | ⟨k, _, _, _, _, v, hv, hx⟩ | ⟨k, _, _, a, p, ha, _, hx, _⟩ | ⟨k, _⟩ | ⟨k, _⟩ | ⟨k, _⟩
  · rw [sk_nv_0 k, sk_lc_n (sk_n2_0 k), sk_la_n (sk_n2_0 k)] at H
    exact ⟨i50, nm_r k (br_f (by decide) (br_f (by decide) (br_t rfl ⟨i50, H⟩)))⟩
  · rw [sk_nv_1 k, sk_lc_n (sk_n2_1 k), sk_la_n (sk_n2_1 k)] at H
    exact ⟨i50, nm_r k (br_f (by decide) (br_f (by decide) (br_f (by decide) (br_t rfl ⟨i50, by rw [hx]; exact vp_in_nI hv (by omega), H⟩))))⟩
  · rw [sk_nv_2 k, sk_lc_2 k, sk_la_2 k] at H
    obtain ⟨j, hj, ej, _⟩ := sk_pl ha (vl h)
    have ij : vp_in (ex e * 8 + (vl h &&& 7)) 16 := by rw [hx, show nI a * 8 + (vl h &&& 7) = nI j from ej]; exact vp_in_nI hj (by omega)
    exact ⟨i50, nm_r k (br_f (by decide) (br_f (by decide) (br_f (by decide) (br_f (by decide) (br_t rfl ⟨i50, i0, sk_xadd hlc ⟨ij, H⟩⟩)))))⟩
  · rw [sk_nv_13 k, sk_lc_n (sk_n2_13 k), sk_la_n (sk_n2_13 k)] at H
    exact ⟨i50, nm_r k (br_f (by decide) (br_f (by decide) (br_f (by decide) (br_f (by decide) (br_f (by decide) (br_f (by decide) (br_f (by decide) (br_f (by decide) (br_f (by decide) (br_f (by decide) (br_f (by decide) (br_f (by decide) (br_f (by decide) (br_f (by decide) (br_f (by decide) (br_t rfl ⟨i0, H⟩))))))))))))))))⟩
  · rw [sk_nv_14 k, sk_lc_n (sk_n2_14 k), sk_la_n (sk_n2_14 k)] at H
    exact ⟨i50, nm_r k (br_f (by decide) (br_f (by decide) (br_f (by decide) (br_f (by decide) (br_f (by decide) (br_f (by decide) (br_f (by decide) (br_f (by decide) (br_f (by decide) (br_f (by decide) (br_f (by decide) (br_f (by decide) (br_f (by decide) (br_f (by decide) (br_f (by decide) (br_f (by decide) (br_t rfl ⟨i0, br_c (fun z => ⟨i2, by rw [if_pos z] at H; exact H⟩) (fun z => ⟨i1, by rw [if_neg z] at H; exact H⟩)⟩)))))))))))))))))⟩
  · rw [sk_nv_b k, sk_lc_n (sk_n2_b k), sk_la_n (sk_n2_b k)] at H
    obtain ⟨n0, n1, n2, n13, n14⟩ := sk_bin_ne k
    obtain ⟨q, q1, q2, q3⟩ := k
    have g0 : ¬ ek e < 0 := by rw [q3]; exact nI_pos (by omega)
    have g3 : ¬ ek e < 3 := by rw [q3]; exact nI_nlt (b := 3) q1 (by omega)
    have g12 : ¬ 12 < ek e := by rw [q3]; exact nI_nlt (a := 12) q2 (by decide)
    have g14 : ¬ 14 < ek e := by rw [q3]; exact nI_nlt (a := 14) (by omega) (by decide)
    have V := And.intro i50 (And.intro i0 (And.intro i1 (sk_xcomb (post := fun r => post r (nM, nN, nI lc, nI pc, pl, vs, es, lab, ek, ex, px, py, pz, ew, od, sec, rdo, sk, sx, sy, sz, sw, dp, so, sh, la, pa, vl, ps, pt, pr)) g3 g12 H)))
    exact ⟨i50, nm_e (br_f g0 (br_f g14 (br_f n0 (br_f n1 (br_f n2 (br_c (fun _ => V) (fun _ => br_c (fun _ => V) (fun _ => br_c (fun _ => V) (fun _ => br_c (fun _ => V) (fun _ => br_c (fun _ => V) (fun _ => br_c (fun _ => V) (fun _ => br_c (fun _ => V) (fun _ => br_c (fun _ => V) (fun _ => br_c (fun _ => V) (fun _ => br_c (fun _ => V) (fun _ => br_f n13 (br_f n14 trivial)))))))))))))))))⟩
/-- the loop of workOut keeps X's rule -/
theorem sk_xrx {post : Int32 → SX → Prop} {E : Nat} (hM : M ≤ 50) (HE : ∀ e, e < M → sk_node ek ex ey ez ew px py pz od e) (hE : E < M) :
    sk_RX M ek ex ew od vs es E (fun n i h lc la vl => wX_workOut_4 post (nI E) n (nI h) (nI i) nM nN (nI lc) (nI pc) pl vs es lab ek ex px py pz ew od sec rdo sk sx sy sz sw dp so sh la pa vl ps pt pr) := by
  intro n i h lc la vl e he hod hi hh hh3 hlc H
  obtain ⟨⟨hwE, hw30, _⟩, _⟩ := HE E hE
  have hi2 : nI E * 30 + nI i = nI (30 * E + i) := sk_30 E i
  refine ⟨vp_in_nI (by omega) (by omega), br_f ?_ ⟨?_, nm_r (e' := nI e) ?_ ?_⟩⟩
  · rw [nI_clamp (by omega), hwE]
    exact nI_ge hi (by omega)
  · rw [hi2]
    exact vp_in_nI (by omega) (by omega)
  · rw [hi2, nI_clamp (by omega)]
    exact hod
  · refine sk_xpar (by omega) (HE e he) (nm_r sk_sub ?_)
    refine sk_xval (by omega) (HE e he) hh3 hlc ?_
    exact ⟨vp_in_nI (by omega) (by omega), nm_r (by rw [nI_clamp (by omega)]) (nm_r (nI_1 h) (nm_r (nI_1 i) H))⟩
theorem sk_xwork {post : Int32 → SX → Prop} {e lc' : Nat} {v : Int32} {la' : sk_F} (hM : M ≤ 50) (HE : ∀ e, e < M → sk_node ek ex ey ez ew px py pz od e) (he : e < M) (hv : sk_EvX M ek ex ew od vs es e lc la v lc' la')
    (H : ∀ vl' : sk_F, post v (nM, nN, nI lc', nI pc, pl, vs, es, lab, ek, ex, px, py, pz, ew, od, sec, rdo, sk, sx, sy, sz, sw, dp, so, sh, la', pa, vl', ps, pt, pr)) : wpX_workOut post (nM, nN, nI lc, nI pc, pl, vs, es, lab, ek, ex, px, py, pz, ew, od, sec, rdo, sk, sx, sy, sz, sw, dp, so, sh, la, pa, vl, ps, pt, pr) (nI e) := by
  obtain ⟨⟨hwE, hw30, _⟩, _⟩ := HE e he
  refine ⟨1 + sk_w ew e, ?_⟩
  refine hv e _ (sk_xrx hM HE he) 1 0 0 vl (fun j _ => rfl) (by omega) (by omega) ?_
  intro vl' _ h0
  refine ⟨vp_in_nI (by omega) (by omega), br_t ?_ ?_⟩
  · rw [nI_clamp (by omega), hwE, Nat.zero_add]
    exact nI_le (Nat.le_refl _) (by omega)
  · rw [h0]
    exact H vl'
end
end
section
/-! 07: X: one step of a run, kind by kind -/
section
variable {nM nN : Int32} {M N lc pc b : Nat} {vs es lab ek ex ey ez px py pz ew od sec rdo sk sx sy sz sw dp so sh la pa vl ps pt pr : sk_F}
theorem sk_xplan {post : SX → Prop} {s : Nat} {p0 t r t' f : Int32} (e0 : p0 = nI s) (hs : s < 40) (hb : b < 30) (ht : t = t') (hf : vp_nar .boolean r = f) (H : post (nM, nN, nI lc, nI pc, nI (b + 1), vs, es, lab, ek, ex, px, py, pz, ew, od, sec, rdo, sk, sx, sy, sz, sw, dp, so, sh, la, pa, vl, upd ps b (nI s), upd pt b t', upd pr b f)) : wpX_plan post (nM, nN, nI lc, nI pc, nI b, vs, es, lab, ek, ex, px, py, pz, ew, od, sec, rdo, sk, sx, sy, sz, sw, dp, so, sh, la, pa, vl, ps, pt, pr) p0 t r := by
  subst e0 ht hf
  have i : vp_in (nI b) 30 := vp_in_nI hb (by omega)
  have c := nI_clamp (show b < 2 ^ 31 by omega)
  unfold wpX_plan
  dsimp only
  rw [c]
  exact br_f (sk_m1 (by omega)) ⟨i, nm_e ⟨i, nm_e ⟨i, nm_e (nm_r (nI_1 b) H)⟩⟩⟩
theorem sk_xplan0 {post : SX → Prop} {p0 t r : Int32} (e0 : p0 = -1) (H : post (nM, nN, nI lc, nI pc, nI b, vs, es, lab, ek, ex, px, py, pz, ew, od, sec, rdo, sk, sx, sy, sz, sw, dp, so, sh, la, pa, vl, ps, pt, pr)) : wpX_plan post (nM, nN, nI lc, nI pc, nI b, vs, es, lab, ek, ex, px, py, pz, ew, od, sec, rdo, sk, sx, sy, sz, sw, dp, so, sh, la, pa, vl, ps, pt, pr) p0 t r := br_t e0 H
theorem sk_xwk {post : Int32 → SX → Prop} {e lc' : Nat} {p0 v : Int32} {la' : sk_F} (e0 : p0 = nI e) (hM : M ≤ 50) (HE : ∀ e, e < M → sk_node ek ex ey ez ew px py pz od e) (he : e < M) (hv : sk_EvX M ek ex ew od vs es e lc la v lc' la')
    (H : ∀ vl' : sk_F, post v (nM, nN, nI lc', nI pc, nI b, vs, es, lab, ek, ex, px, py, pz, ew, od, sec, rdo, sk, sx, sy, sz, sw, dp, so, sh, la', pa, vl', ps, pt, pr)) : wpX_workOut post (nM, nN, nI lc, nI pc, nI b, vs, es, lab, ek, ex, px, py, pz, ew, od, sec, rdo, sk, sx, sy, sz, sw, dp, so, sh, la, pa, vl, ps, pt, pr) p0 := by
  subst e0
  exact sk_xwork hM HE he hv H
theorem sk_xap {post : SX → Prop} {v : Int32} (h : pc < 2 ^ 30) (H : post (nM, nN, nI lc, nI (pc + 1), nI b, vs, es, lab, ek, ex, px, py, pz, ew, od, sec, rdo, sk, sx, sy, sz, sw, dp, so, sh, la, sk_put 20 pc pa v, vl, ps, pt, pr)) : wpX_addPrint post (nM, nN, nI lc, nI pc, nI b, vs, es, lab, ek, ex, px, py, pz, ew, od, sec, rdo, sk, sx, sy, sz, sw, dp, so, sh, la, pa, vl, ps, pt, pr) v := by
  unfold wpX_addPrint
  dsimp only
  refine pk_le 20 pc (fun h2 => ?_) (fun h2 => ?_)
  · rw [sk_put_ge h2] at H
    exact nm_r (nI_1 pc) H
  · rw [sk_put_lt h2] at H
    exact ⟨vp_in_nI h2 (by omega), nm_r (by rw [nI_clamp (by omega)]) (nm_r (nI_1 pc) H)⟩
theorem sk_t1 : ¬ sk_bI true = 0 := by decide
theorem sk_t0 : sk_bI false = 0 := rfl
theorem sk_xassign {post : SX → Prop} {s x p lc' : Nat} {r : Bool} {v : Int32} {la' : sk_F} (hM : M ≤ 50) (HE : ∀ e, e < M → sk_node ek ex ey ez ew px py pz od e) (hs : s < 40) (hx : x < 8) (h1 : sx s = nI x) (hp : p < M) (h2 : sy s = nI p) (hv : sk_EvX M ek ex ew od vs es p lc la v lc' la')
    (H : ∀ vl' : sk_F, post (nM, nN, nI lc', nI pc, nI b, if r then upd vs x v else vs, es, lab, ek, ex, px, py, pz, ew, od, sec, rdo, sk, sx, sy, sz, sw, dp, so, sh, la', pa, vl', ps, pt, pr)) : wpX_assign post (nM, nN, nI lc, nI pc, nI b, vs, es, lab, ek, ex, px, py, pz, ew, od, sec, rdo, sk, sx, sy, sz, sw, dp, so, sh, la, pa, vl, ps, pt, pr) (nI s) (sk_bI r) := by
  have i : vp_in (nI s) 40 := vp_in_nI hs (by omega)
  have c := nI_clamp (show s < 2 ^ 31 by omega)
  refine ⟨i, sk_xwk (by rw [c]; exact h2) hM HE hp hv (fun vl' => ?_)⟩
  cases r with
  | false => exact br_t sk_t0 (H vl')
  | true => exact br_f sk_t1 ⟨i, by rw [c, h1]; exact vp_in_nI hx (by omega), nm_r (e' := upd vs x v) (by rw [c, h1, nI_clamp (by omega)]) (H vl')⟩
theorem sk_xstore {post : SX → Prop} {s a p q lc1 lc' : Nat} {r : Bool} {i v : Int32} {la1 la' : sk_F} (hM : M ≤ 50) (HE : ∀ e, e < M → sk_node ek ex ey ez ew px py pz od e) (hs : s < 40) (ha : a < 2) (h1 : sx s = nI a) (hp : p < M) (h2 : sy s = nI p) (hq : q < M) (h3 : sz s = nI q)
    (hv1 : sk_EvX M ek ex ew od vs es p lc la i lc1 la1) (hv : sk_EvX M ek ex ew od vs es q lc1 la1 v lc' la') (hlc : lc' < 2 ^ 30)
    (H : ∀ vl' : sk_F, post (nM, nN, nI (lc' + 1), nI pc, nI b, vs, if r then upd es (sk_at (nI a) i).toNatClampNeg v else es, lab, ek, ex, px, py, pz, ew, od, sec, rdo, sk, sx, sy, sz, sw, dp, so, sh, sk_put 200 lc' la' (32 + sk_at (nI a) i), pa, vl', ps, pt, pr)) : wpX_store post (nM, nN, nI lc, nI pc, nI b, vs, es, lab, ek, ex, px, py, pz, ew, od, sec, rdo, sk, sx, sy, sz, sw, dp, so, sh, la, pa, vl, ps, pt, pr) (nI s) (sk_bI r) := by
  have i40 : vp_in (nI s) 40 := vp_in_nI hs (by omega)
  have c := nI_clamp (show s < 2 ^ 31 by omega)
  obtain ⟨j, hj, ej, _⟩ := sk_pl ha i
  refine ⟨i40, sk_xwk (by rw [c]; exact h2) hM HE hp hv1 (fun vl1 => ⟨i40, sk_xwk (by rw [c]; exact h3) hM HE hq hv (fun vl' => ⟨i40, ?_⟩)⟩)⟩
  have e1 : sx (nI s).toNatClampNeg * 8 + (i &&& 7) = sk_at (nI a) i := by rw [c, h1]; rfl
  unfold wpX_placeOf
  rw [e1]
  refine sk_xadd hlc ?_
  cases r with
  | false => exact br_t sk_t0 (H vl')
  | true => exact br_f sk_t1 ⟨by rw [ej]; exact vp_in_nI hj (by omega), nm_e (H vl')⟩
theorem sk_xprint {post : SX → Prop} {s p lc' : Nat} {v : Int32} {la' : sk_F} (hM : M ≤ 50) (HE : ∀ e, e < M → sk_node ek ex ey ez ew px py pz od e) (hs : s < 40) (hp : p < M) (h1 : sx s = nI p) (hv : sk_EvX M ek ex ew od vs es p lc la v lc' la') (hpc : pc < 2 ^ 30)
    (H : ∀ vl' : sk_F, post (nM, nN, nI lc', nI (pc + 1), nI b, vs, es, lab, ek, ex, px, py, pz, ew, od, sec, rdo, sk, sx, sy, sz, sw, dp, so, sh, la', sk_put 20 pc pa v, vl', ps, pt, pr)) : wpX_print post (nM, nN, nI lc, nI pc, nI b, vs, es, lab, ek, ex, px, py, pz, ew, od, sec, rdo, sk, sx, sy, sz, sw, dp, so, sh, la, pa, vl, ps, pt, pr) (nI s) (sk_bI true) := by
  have i : vp_in (nI s) 40 := vp_in_nI hs (by omega)
  have c := nI_clamp (show s < 2 ^ 31 by omega)
  exact ⟨i, sk_xwk (by rw [c]; exact h1) hM HE hp hv (fun vl' => br_f sk_t1 (sk_xap hpc (H vl')))⟩
theorem sk_xpt {post : SX → Prop} {s t q : Nat} {r : Bool} (hs : s < 40) (hq : q < 40) (h2 : sy s = nI q) (hb : b + 1 < 30) (H : post (nM, nN, nI lc, nI pc, nI (b + 1 + 1), vs, es, lab, ek, ex, px, py, pz, ew, od, sec, rdo, sk, sx, sy, sz, sw, dp, so, sh, la, pa, vl, upd (upd ps b (nI s)) (b + 1) (nI q), upd (upd pt b (nI (t + 1))) (b + 1) (nI 0), upd (upd pr b (sk_bI r)) (b + 1) (sk_bI r))) : wpX_planTurn post (nM, nN, nI lc, nI pc, nI b, vs, es, lab, ek, ex, px, py, pz, ew, od, sec, rdo, sk, sx, sy, sz, sw, dp, so, sh, la, pa, vl, ps, pt, pr) (nI s) (nI t) (sk_bI r) := by
  have i : vp_in (nI s) 40 := vp_in_nI hs (by omega)
  have c := nI_clamp (show s < 2 ^ 31 by omega)
  unfold wpX_planTurn
  dsimp only
  exact sk_xplan rfl hs (by omega) (nI_1 t) (sk_nb r) ⟨i, sk_xplan (by rw [c]; exact h2) hq hb rfl (sk_nb r) H⟩
theorem sk_xb3a {post : SX → Prop} {s p q lc' : Nat} {r : Bool} {v : Int32} {la' : sk_F} (hM : M ≤ 50) (HE : ∀ e, e < M → sk_node ek ex ey ez ew px py pz od e) (hs : s < 40) (hp : p < M) (h1 : sx s = nI p) (hq : q < 40) (h2 : sy s = nI q) (hv : sk_EvX M ek ex ew od vs es p lc la v lc' la') (hsec : ¬ sec p = 0) (hz : sz s = -1) (hb : b < 30)
    (H : ∀ vl' : sk_F, post (nM, nN, nI lc', nI pc, nI (b + 1), vs, es, lab, ek, ex, px, py, pz, ew, od, sec, rdo, sk, sx, sy, sz, sw, dp, so, sh, la', pa, vl', upd ps b (nI q), upd pt b (nI 0), upd pr b (sk_bI (r && decide (¬ v = 0))))) : wpX_branch post (nM, nN, nI lc, nI pc, nI b, vs, es, lab, ek, ex, px, py, pz, ew, od, sec, rdo, sk, sx, sy, sz, sw, dp, so, sh, la, pa, vl, ps, pt, pr) (nI s) (sk_bI r) := by
  have i : vp_in (nI s) 40 := vp_in_nI hs (by omega)
  have c := nI_clamp (show s < 2 ^ 31 by omega)
  have ip : vp_in (nI p) 50 := vp_in_nI (by omega) (by omega)
  have cp := nI_clamp (show p < 2 ^ 31 by omega)
  unfold wpX_branch wX_branch_20 wX_branch_95 wX_branch_119 wX_branch_52 wX_branch_53 wX_branch_77 wX_branch_78
  refine ⟨i, nm_r (e' := nI p) (by rw [c]; exact h1) (sk_xwk rfl hM HE hp hv (fun vl' => ?_))⟩
  have hs2 : ¬ sec (nI p).toNatClampNeg = 0 := by rw [cp]; exact hsec
  by_cases h0 : v = 0
  · have d1 : decide (v = 0) = true := decide_eq_true h0
    have d2 : decide (¬ v = 0) = false := decide_eq_false (fun z => z h0)
    rw [d2] at H
    skip
    cases r with
    | false => exact br_t h0 ⟨ip, br_f hs2 ⟨i, br_t sk_t0 (sk_xplan0 (by rw [c]; exact hz) ⟨i, (br_t sk_t0 (sk_xplan (by rw [c]; exact h2) hq hb rfl rfl (H vl')))⟩)⟩⟩
    | true => exact br_t h0 ⟨ip, br_f hs2 ⟨i, br_f sk_t1 (br_t rfl (sk_xplan0 (by rw [c]; exact hz) ⟨i, (br_f sk_t1 (br_t rfl (sk_xplan (by rw [c]; exact h2) hq hb rfl rfl (H vl'))))⟩))⟩⟩
  · have d1 : decide (v = 0) = false := decide_eq_false h0
    have d2 : decide (¬ v = 0) = true := decide_eq_true h0
    rw [d2] at H
    skip
    cases r with
    | false => exact br_f h0 ⟨ip, br_f hs2 ⟨i, br_t sk_t0 (sk_xplan0 (by rw [c]; exact hz) ⟨i, (br_t sk_t0 (sk_xplan (by rw [c]; exact h2) hq hb rfl rfl (H vl')))⟩)⟩⟩
    | true => exact br_f h0 ⟨ip, br_f hs2 ⟨i, br_f sk_t1 (br_f (by decide) (sk_xplan0 (by rw [c]; exact hz) ⟨i, (br_f sk_t1 (br_f (by decide) (sk_xplan (by rw [c]; exact h2) hq hb rfl rfl (H vl'))))⟩))⟩⟩
theorem sk_xb3b {post : SX → Prop} {s p q lc' : Nat} {r : Bool} {v : Int32} {la' : sk_F} {z : Nat} (hM : M ≤ 50) (HE : ∀ e, e < M → sk_node ek ex ey ez ew px py pz od e) (hs : s < 40) (hp : p < M) (h1 : sx s = nI p) (hq : q < 40) (h2 : sy s = nI q) (hv : sk_EvX M ek ex ew od vs es p lc la v lc' la') (hsec : ¬ sec p = 0) (hzN : z < 40) (hz : sz s = nI z) (hb : b + 1 < 30)
    (H : ∀ vl' : sk_F, post (nM, nN, nI lc', nI pc, nI (b + 1 + 1), vs, es, lab, ek, ex, px, py, pz, ew, od, sec, rdo, sk, sx, sy, sz, sw, dp, so, sh, la', pa, vl', upd (upd ps b (nI z)) (b + 1) (nI q), upd (upd pt b (nI 0)) (b + 1) (nI 0), upd (upd pr b (sk_bI (r && decide (v = 0)))) (b + 1) (sk_bI (r && decide (¬ v = 0))))) : wpX_branch post (nM, nN, nI lc, nI pc, nI b, vs, es, lab, ek, ex, px, py, pz, ew, od, sec, rdo, sk, sx, sy, sz, sw, dp, so, sh, la, pa, vl, ps, pt, pr) (nI s) (sk_bI r) := by
  have i : vp_in (nI s) 40 := vp_in_nI hs (by omega)
  have c := nI_clamp (show s < 2 ^ 31 by omega)
  have ip : vp_in (nI p) 50 := vp_in_nI (by omega) (by omega)
  have cp := nI_clamp (show p < 2 ^ 31 by omega)
  unfold wpX_branch wX_branch_20 wX_branch_95 wX_branch_119 wX_branch_52 wX_branch_53 wX_branch_77 wX_branch_78
  refine ⟨i, nm_r (e' := nI p) (by rw [c]; exact h1) (sk_xwk rfl hM HE hp hv (fun vl' => ?_))⟩
  have hs2 : ¬ sec (nI p).toNatClampNeg = 0 := by rw [cp]; exact hsec
  by_cases h0 : v = 0
  · have d1 : decide (v = 0) = true := decide_eq_true h0
    have d2 : decide (¬ v = 0) = false := decide_eq_false (fun z => z h0)
    rw [d2] at H
    rw [d1] at H
    cases r with
    | false => exact br_t h0 ⟨ip, br_f hs2 ⟨i, br_t sk_t0 (sk_xplan (by rw [c]; exact hz) hzN (by omega) rfl rfl ⟨i, (br_t sk_t0 (sk_xplan (by rw [c]; exact h2) hq hb rfl rfl (H vl')))⟩)⟩⟩
    | true => exact br_t h0 ⟨ip, br_f hs2 ⟨i, br_f sk_t1 (br_t rfl (sk_xplan (by rw [c]; exact hz) hzN (by omega) rfl rfl ⟨i, (br_f sk_t1 (br_t rfl (sk_xplan (by rw [c]; exact h2) hq hb rfl rfl (H vl'))))⟩))⟩⟩
  · have d1 : decide (v = 0) = false := decide_eq_false h0
    have d2 : decide (¬ v = 0) = true := decide_eq_true h0
    rw [d2] at H
    rw [d1] at H
    cases r with
    | false => exact br_f h0 ⟨ip, br_f hs2 ⟨i, br_t sk_t0 (sk_xplan (by rw [c]; exact hz) hzN (by omega) rfl rfl ⟨i, (br_t sk_t0 (sk_xplan (by rw [c]; exact h2) hq hb rfl rfl (H vl')))⟩)⟩⟩
    | true => exact br_f h0 ⟨ip, br_f hs2 ⟨i, br_f sk_t1 (br_f (by decide) (sk_xplan (by rw [c]; exact hz) hzN (by omega) rfl rfl ⟨i, (br_f sk_t1 (br_f (by decide) (sk_xplan (by rw [c]; exact h2) hq hb rfl rfl (H vl'))))⟩))⟩⟩
theorem sk_xb3c {post : SX → Prop} {s p q lc' : Nat} {r : Bool} {v : Int32} {la' : sk_F} (hM : M ≤ 50) (HE : ∀ e, e < M → sk_node ek ex ey ez ew px py pz od e) (hs : s < 40) (hp : p < M) (h1 : sx s = nI p) (hq : q < 40) (h2 : sy s = nI q) (hv : sk_EvX M ek ex ew od vs es p lc la v lc' la') (hsec : sec p = 0) (h0 : ¬ v = 0) (hlc : lc' < 2 ^ 30) (hb : b < 30)
    (H : ∀ vl' : sk_F, post (nM, nN, nI (lc' + 1), nI pc, nI (b + 1), vs, es, lab, ek, ex, px, py, pz, ew, od, sec, rdo, sk, sx, sy, sz, sw, dp, so, sh, sk_put 200 lc' la' 1, pa, vl', upd ps b (nI q), upd pt b (nI 0), upd pr b (sk_bI r))) : wpX_branch post (nM, nN, nI lc, nI pc, nI b, vs, es, lab, ek, ex, px, py, pz, ew, od, sec, rdo, sk, sx, sy, sz, sw, dp, so, sh, la, pa, vl, ps, pt, pr) (nI s) (sk_bI r) := by
  have i : vp_in (nI s) 40 := vp_in_nI hs (by omega)
  have c := nI_clamp (show s < 2 ^ 31 by omega)
  have ip : vp_in (nI p) 50 := vp_in_nI (by omega) (by omega)
  have cp := nI_clamp (show p < 2 ^ 31 by omega)
  unfold wpX_branch wX_branch_20 wX_branch_95 wX_branch_119 wX_branch_52 wX_branch_53 wX_branch_77 wX_branch_78
  refine ⟨i, nm_r (e' := nI p) (by rw [c]; exact h1) (sk_xwk rfl hM HE hp hv (fun vl' => ?_))⟩
  have hs2 : sec (nI p).toNatClampNeg = 0 := by rw [cp]; exact hsec
  exact br_f h0 ⟨ip, br_t hs2 (br_f (by decide) (sk_xadd hlc (br_f (by decide) ⟨i, sk_xplan (by rw [c]; exact h2) hq hb rfl (sk_nb r) (H vl')⟩)))⟩
theorem sk_xb3d {post : SX → Prop} {s p q lc' : Nat} {r : Bool} {v : Int32} {la' : sk_F} (hM : M ≤ 50) (HE : ∀ e, e < M → sk_node ek ex ey ez ew px py pz od e) (hs : s < 40) (hp : p < M) (h1 : sx s = nI p) (hq : q < 40) (h2 : sy s = nI q) (hv : sk_EvX M ek ex ew od vs es p lc la v lc' la') (hsec : sec p = 0) (h0 : v = 0) (hz : sz s = -1) (hlc : lc' < 2 ^ 30)
    (H : ∀ vl' : sk_F, post (nM, nN, nI (lc' + 1), nI pc, nI b, vs, es, lab, ek, ex, px, py, pz, ew, od, sec, rdo, sk, sx, sy, sz, sw, dp, so, sh, sk_put 200 lc' la' 0, pa, vl', ps, pt, pr)) : wpX_branch post (nM, nN, nI lc, nI pc, nI b, vs, es, lab, ek, ex, px, py, pz, ew, od, sec, rdo, sk, sx, sy, sz, sw, dp, so, sh, la, pa, vl, ps, pt, pr) (nI s) (sk_bI r) := by
  have i : vp_in (nI s) 40 := vp_in_nI hs (by omega)
  have c := nI_clamp (show s < 2 ^ 31 by omega)
  have ip : vp_in (nI p) 50 := vp_in_nI (by omega) (by omega)
  have cp := nI_clamp (show p < 2 ^ 31 by omega)
  unfold wpX_branch wX_branch_20 wX_branch_95 wX_branch_119 wX_branch_52 wX_branch_53 wX_branch_77 wX_branch_78
  refine ⟨i, nm_r (e' := nI p) (by rw [c]; exact h1) (sk_xwk rfl hM HE hp hv (fun vl' => ?_))⟩
  have hs2 : sec (nI p).toNatClampNeg = 0 := by rw [cp]; exact hsec
  exact br_t h0 ⟨ip, br_t hs2 (br_t rfl (sk_xadd hlc (br_t rfl ⟨i, sk_xplan0 (by rw [c]; exact hz) (H vl')⟩)))⟩
theorem sk_xb3e {post : SX → Prop} {s p q lc' : Nat} {r : Bool} {v : Int32} {la' : sk_F} {z : Nat} (hM : M ≤ 50) (HE : ∀ e, e < M → sk_node ek ex ey ez ew px py pz od e) (hs : s < 40) (hp : p < M) (h1 : sx s = nI p) (hq : q < 40) (h2 : sy s = nI q) (hv : sk_EvX M ek ex ew od vs es p lc la v lc' la') (hsec : sec p = 0) (h0 : v = 0) (hzN : z < 40) (hz : sz s = nI z) (hlc : lc' < 2 ^ 30) (hb : b < 30)
    (H : ∀ vl' : sk_F, post (nM, nN, nI (lc' + 1), nI pc, nI (b + 1), vs, es, lab, ek, ex, px, py, pz, ew, od, sec, rdo, sk, sx, sy, sz, sw, dp, so, sh, sk_put 200 lc' la' 0, pa, vl', upd ps b (nI z), upd pt b (nI 0), upd pr b (sk_bI r))) : wpX_branch post (nM, nN, nI lc, nI pc, nI b, vs, es, lab, ek, ex, px, py, pz, ew, od, sec, rdo, sk, sx, sy, sz, sw, dp, so, sh, la, pa, vl, ps, pt, pr) (nI s) (sk_bI r) := by
  have i : vp_in (nI s) 40 := vp_in_nI hs (by omega)
  have c := nI_clamp (show s < 2 ^ 31 by omega)
  have ip : vp_in (nI p) 50 := vp_in_nI (by omega) (by omega)
  have cp := nI_clamp (show p < 2 ^ 31 by omega)
  unfold wpX_branch wX_branch_20 wX_branch_95 wX_branch_119 wX_branch_52 wX_branch_53 wX_branch_77 wX_branch_78
  refine ⟨i, nm_r (e' := nI p) (by rw [c]; exact h1) (sk_xwk rfl hM HE hp hv (fun vl' => ?_))⟩
  have hs2 : sec (nI p).toNatClampNeg = 0 := by rw [cp]; exact hsec
  exact br_t h0 ⟨ip, br_t hs2 (br_t rfl (sk_xadd hlc (br_t rfl ⟨i, sk_xplan (by rw [c]; exact hz) hzN hb rfl (sk_nb r) (H vl')⟩)))⟩
theorem sk_xl5a {post : SX → Prop} {s t p q lc' : Nat} {r : Bool} {v : Int32} {la' : sk_F} (hM : M ≤ 50) (HE : ∀ e, e < M → sk_node ek ex ey ez ew px py pz od e) (hs : s < 40) (ht : t < 6) (hp : p < M) (h1 : sx s = nI p) (hq : q < 40) (h2 : sy s = nI q) (hv : sk_EvX M ek ex ew od vs es p lc la v lc' la') (h0 : ¬ v = 0) (hlc : lc' < 2 ^ 30) (hb : b + 1 < 30)
    (H : ∀ vl' : sk_F, post (nM, nN, nI (lc' + 1), nI pc, nI (b + 1 + 1), vs, es, lab, ek, ex, px, py, pz, ew, od, sec, rdo, sk, sx, sy, sz, sw, dp, so, sh, sk_put 200 lc' la' 3, pa, vl', upd (upd ps b (nI s)) (b + 1) (nI q), upd (upd pt b (nI (t + 1))) (b + 1) (nI 0), upd (upd pr b (sk_bI r)) (b + 1) (sk_bI r))) : wpX_loop post (nM, nN, nI lc, nI pc, nI b, vs, es, lab, ek, ex, px, py, pz, ew, od, sec, rdo, sk, sx, sy, sz, sw, dp, so, sh, la, pa, vl, ps, pt, pr) (nI s) (nI t) (sk_bI r) := by
  have i : vp_in (nI s) 40 := vp_in_nI hs (by omega)
  have c := nI_clamp (show s < 2 ^ 31 by omega)
  unfold wpX_loop wX_loop_25 wX_loop_38
  exact br_t (nI_lt (b := 6) ht (by decide)) ⟨i, sk_xwk (by rw [c]; exact h1) hM HE hp hv (fun vl' => br_f h0 (br_f (by decide) (sk_xadd hlc (br_f (by decide) (sk_xpt hs hq h2 hb (H vl'))))))⟩
theorem sk_xl5b {post : SX → Prop} {s t p lc' : Nat} {r : Bool} {v : Int32} {la' : sk_F} (hM : M ≤ 50) (HE : ∀ e, e < M → sk_node ek ex ey ez ew px py pz od e) (hs : s < 40) (ht : t < 6) (hp : p < M) (h1 : sx s = nI p) (hv : sk_EvX M ek ex ew od vs es p lc la v lc' la') (h0 : v = 0) (hlc : lc' < 2 ^ 30)
    (H : ∀ vl' : sk_F, post (nM, nN, nI (lc' + 1), nI pc, nI b, vs, es, lab, ek, ex, px, py, pz, ew, od, sec, rdo, sk, sx, sy, sz, sw, dp, so, sh, sk_put 200 lc' la' 2, pa, vl', ps, pt, pr)) : wpX_loop post (nM, nN, nI lc, nI pc, nI b, vs, es, lab, ek, ex, px, py, pz, ew, od, sec, rdo, sk, sx, sy, sz, sw, dp, so, sh, la, pa, vl, ps, pt, pr) (nI s) (nI t) (sk_bI r) := by
  have i : vp_in (nI s) 40 := vp_in_nI hs (by omega)
  have c := nI_clamp (show s < 2 ^ 31 by omega)
  unfold wpX_loop wX_loop_25 wX_loop_38
  exact br_t (nI_lt (b := 6) ht (by decide)) ⟨i, sk_xwk (by rw [c]; exact h1) hM HE hp hv (fun vl' => br_t h0 (br_t rfl (sk_xadd hlc (br_t rfl (H vl')))))⟩
theorem sk_xl5c {post : SX → Prop} {s t : Nat} {r : Bool} (ht : t = 6) (H : post (nM, nN, nI lc, nI pc, nI b, vs, es, lab, ek, ex, px, py, pz, ew, od, sec, rdo, sk, sx, sy, sz, sw, dp, so, sh, la, pa, vl, ps, pt, pr)) : wpX_loop post (nM, nN, nI lc, nI pc, nI b, vs, es, lab, ek, ex, px, py, pz, ew, od, sec, rdo, sk, sx, sy, sz, sw, dp, so, sh, la, pa, vl, ps, pt, pr) (nI s) (nI t) (sk_bI r) := by
  subst ht
  exact br_f (by decide) H
theorem sk_tx0 {post : Int32 → SX → Prop} (hN : N ≤ 40) (hM : M ≤ 50) (HE : ∀ e, e < M → sk_node ek ex ey ez ew px py pz od e) : sk_rx0 M N ek ex ew od sk sx sy (fun n step b vs es lc la pc pa ps pt pr => ∀ vl : sk_F, wX_run_46 post n (nI step) nM nN (nI lc) (nI pc) (nI b) vs es lab ek ex px py pz ew od sec rdo sk sx sy sz sw dp so sh la pa vl ps pt pr) := by
  intro n step b vs es lc la pc pa ps pt pr s t r x p v lc' la' hs hstep hb hst hk hx h1 hp h2 E H vl
  have a1 : ¬ (1000000 : Int32) ≤ nI step := nI_ge (b := 1000000) hstep (by decide)
  have a2 : ¬ nI (b + 1) ≤ 0 := nI_nle (by omega) (by omega)
  have c := nI_clamp (show s < 2 ^ 31 by omega)
  have i40 : vp_in (nI s) 40 := vp_in_nI (by omega) (by omega)
  have ib : vp_in (nI b) 30 := vp_in_nI hb (by omega)
  have cb := nI_clamp (show b < 2 ^ 31 by omega)
  refine br_f a1 (br_f a2 (nm_r (nI_pred b) ⟨ib, nm_r (e' := nI s) (by rw [cb]; exact hst.1) ⟨ib, nm_r (e' := nI t) (by rw [cb]; exact hst.2.1) ⟨ib, nm_r (e' := sk_bI r) (by rw [cb]; exact hst.2.2) ⟨i40, nm_r (e' := 0) (by rw [c]; exact hk) ?_⟩⟩⟩⟩))
  exact br_f (by decide) (br_f (by decide) (br_t rfl (sk_xassign hM HE (by omega) hx h1 hp h2 E (fun vl' => (nm_r (nI_1 step) (H vl'))))))
theorem sk_tx1 {post : Int32 → SX → Prop} (hN : N ≤ 40) (hM : M ≤ 50) (HE : ∀ e, e < M → sk_node ek ex ey ez ew px py pz od e) : sk_rx1 M N ek ex ew od sk sx sy sz (fun n step b vs es lc la pc pa ps pt pr => ∀ vl : sk_F, wX_run_46 post n (nI step) nM nN (nI lc) (nI pc) (nI b) vs es lab ek ex px py pz ew od sec rdo sk sx sy sz sw dp so sh la pa vl ps pt pr) := by
  intro n step b vs es lc la pc pa ps pt pr s t r a p q i lc1 la1 v lc' la' hs hstep hb hst hk ha h1 hp h2 hq h3 E1 E hlc H vl
  have a1 : ¬ (1000000 : Int32) ≤ nI step := nI_ge (b := 1000000) hstep (by decide)
  have a2 : ¬ nI (b + 1) ≤ 0 := nI_nle (by omega) (by omega)
  have c := nI_clamp (show s < 2 ^ 31 by omega)
  have i40 : vp_in (nI s) 40 := vp_in_nI (by omega) (by omega)
  have ib : vp_in (nI b) 30 := vp_in_nI hb (by omega)
  have cb := nI_clamp (show b < 2 ^ 31 by omega)
  refine br_f a1 (br_f a2 (nm_r (nI_pred b) ⟨ib, nm_r (e' := nI s) (by rw [cb]; exact hst.1) ⟨ib, nm_r (e' := nI t) (by rw [cb]; exact hst.2.1) ⟨ib, nm_r (e' := sk_bI r) (by rw [cb]; exact hst.2.2) ⟨i40, nm_r (e' := 1) (by rw [c]; exact hk) ?_⟩⟩⟩⟩))
  exact br_f (by decide) (br_f (by decide) (br_f (by decide) (br_t rfl (sk_xstore hM HE (by omega) ha h1 hp h2 hq h3 E1 E hlc (fun vl' => (nm_r (nI_1 step) (H vl')))))))
theorem sk_tx2 {post : Int32 → SX → Prop} (hN : N ≤ 40) (hM : M ≤ 50) (HE : ∀ e, e < M → sk_node ek ex ey ez ew px py pz od e) : sk_rx2 N sk sx sy (fun n step b vs es lc la pc pa ps pt pr => ∀ vl : sk_F, wX_run_46 post n (nI step) nM nN (nI lc) (nI pc) (nI b) vs es lab ek ex px py pz ew od sec rdo sk sx sy sz sw dp so sh la pa vl ps pt pr) := by
  intro n step b vs es lc la pc pa ps pt pr s t r p q hs hstep hb hst hk hp h1 hq h2 hb2 H vl
  have a1 : ¬ (1000000 : Int32) ≤ nI step := nI_ge (b := 1000000) hstep (by decide)
  have a2 : ¬ nI (b + 1) ≤ 0 := nI_nle (by omega) (by omega)
  have c := nI_clamp (show s < 2 ^ 31 by omega)
  have i40 : vp_in (nI s) 40 := vp_in_nI (by omega) (by omega)
  have ib : vp_in (nI b) 30 := vp_in_nI hb (by omega)
  have cb := nI_clamp (show b < 2 ^ 31 by omega)
  refine br_f a1 (br_f a2 (nm_r (nI_pred b) ⟨ib, nm_r (e' := nI s) (by rw [cb]; exact hst.1) ⟨ib, nm_r (e' := nI t) (by rw [cb]; exact hst.2.1) ⟨ib, nm_r (e' := sk_bI r) (by rw [cb]; exact hst.2.2) ⟨i40, nm_r (e' := 2) (by rw [c]; exact hk) ?_⟩⟩⟩⟩))
  exact br_f (by decide) (br_f (by decide) (br_f (by decide) (br_f (by decide) (br_t rfl ⟨i40, sk_xplan (by rw [c]; exact h2) (by omega) hb rfl (sk_nb r) ⟨i40, sk_xplan (by rw [c]; exact h1) (by omega) hb2 rfl (sk_nb r) (nm_r (nI_1 step) (H _ _ _ (fun j hj => ⟨(pk_un (by omega)).trans (pk_un (by omega)), (pk_un (by omega)).trans (pk_un (by omega)), (pk_un (by omega)).trans (pk_un (by omega))⟩) ⟨(pk_un (by omega)).trans pk_us, (pk_un (by omega)).trans pk_us, (pk_un (by omega)).trans pk_us⟩ ⟨pk_us, pk_us, pk_us⟩ vl))⟩⟩))))
theorem sk_tx3a {post : Int32 → SX → Prop} (hN : N ≤ 40) (hM : M ≤ 50) (HE : ∀ e, e < M → sk_node ek ex ey ez ew px py pz od e) : sk_rx3a M N ek ex ew od sec sk sx sy sz (fun n step b vs es lc la pc pa ps pt pr => ∀ vl : sk_F, wX_run_46 post n (nI step) nM nN (nI lc) (nI pc) (nI b) vs es lab ek ex px py pz ew od sec rdo sk sx sy sz sw dp so sh la pa vl ps pt pr) := by
  intro n step b vs es lc la pc pa ps pt pr s t r p q v lc' la' hs hstep hb hst hk hp h1 hq h2 E hsec hz H vl
  have a1 : ¬ (1000000 : Int32) ≤ nI step := nI_ge (b := 1000000) hstep (by decide)
  have a2 : ¬ nI (b + 1) ≤ 0 := nI_nle (by omega) (by omega)
  have c := nI_clamp (show s < 2 ^ 31 by omega)
  have i40 : vp_in (nI s) 40 := vp_in_nI (by omega) (by omega)
  have ib : vp_in (nI b) 30 := vp_in_nI hb (by omega)
  have cb := nI_clamp (show b < 2 ^ 31 by omega)
  refine br_f a1 (br_f a2 (nm_r (nI_pred b) ⟨ib, nm_r (e' := nI s) (by rw [cb]; exact hst.1) ⟨ib, nm_r (e' := nI t) (by rw [cb]; exact hst.2.1) ⟨ib, nm_r (e' := sk_bI r) (by rw [cb]; exact hst.2.2) ⟨i40, nm_r (e' := 3) (by rw [c]; exact hk) ?_⟩⟩⟩⟩))
  exact br_f (by decide) (br_f (by decide) (br_f (by decide) (br_f (by decide) (br_f (by decide) (br_t rfl (sk_xb3a hM HE (by omega) hp h1 (by omega) h2 E hsec hz hb (fun vl' => (nm_r (nI_1 step) (H _ _ _ (fun j hj => ⟨pk_un (by omega), pk_un (by omega), pk_un (by omega)⟩) ⟨pk_us, pk_us, pk_us⟩ vl')))))))))
theorem sk_tx3b {post : Int32 → SX → Prop} (hN : N ≤ 40) (hM : M ≤ 50) (HE : ∀ e, e < M → sk_node ek ex ey ez ew px py pz od e) : sk_rx3b M N ek ex ew od sec sk sx sy sz (fun n step b vs es lc la pc pa ps pt pr => ∀ vl : sk_F, wX_run_46 post n (nI step) nM nN (nI lc) (nI pc) (nI b) vs es lab ek ex px py pz ew od sec rdo sk sx sy sz sw dp so sh la pa vl ps pt pr) := by
  intro n step b vs es lc la pc pa ps pt pr s t r p q z v lc' la' hs hstep hb hst hk hp h1 hq h2 E hsec hzN hz hb2 H vl
  have a1 : ¬ (1000000 : Int32) ≤ nI step := nI_ge (b := 1000000) hstep (by decide)
  have a2 : ¬ nI (b + 1) ≤ 0 := nI_nle (by omega) (by omega)
  have c := nI_clamp (show s < 2 ^ 31 by omega)
  have i40 : vp_in (nI s) 40 := vp_in_nI (by omega) (by omega)
  have ib : vp_in (nI b) 30 := vp_in_nI hb (by omega)
  have cb := nI_clamp (show b < 2 ^ 31 by omega)
  refine br_f a1 (br_f a2 (nm_r (nI_pred b) ⟨ib, nm_r (e' := nI s) (by rw [cb]; exact hst.1) ⟨ib, nm_r (e' := nI t) (by rw [cb]; exact hst.2.1) ⟨ib, nm_r (e' := sk_bI r) (by rw [cb]; exact hst.2.2) ⟨i40, nm_r (e' := 3) (by rw [c]; exact hk) ?_⟩⟩⟩⟩))
  exact br_f (by decide) (br_f (by decide) (br_f (by decide) (br_f (by decide) (br_f (by decide) (br_t rfl (sk_xb3b hM HE (by omega) hp h1 (by omega) h2 E hsec (by omega) hz hb2 (fun vl' => (nm_r (nI_1 step) (H _ _ _ (fun j hj => ⟨(pk_un (by omega)).trans (pk_un (by omega)), (pk_un (by omega)).trans (pk_un (by omega)), (pk_un (by omega)).trans (pk_un (by omega))⟩) ⟨(pk_un (by omega)).trans pk_us, (pk_un (by omega)).trans pk_us, (pk_un (by omega)).trans pk_us⟩ ⟨pk_us, pk_us, pk_us⟩ vl')))))))))
theorem sk_tx3c {post : Int32 → SX → Prop} (hN : N ≤ 40) (hM : M ≤ 50) (HE : ∀ e, e < M → sk_node ek ex ey ez ew px py pz od e) : sk_rx3c M N ek ex ew od sec sk sx sy (fun n step b vs es lc la pc pa ps pt pr => ∀ vl : sk_F, wX_run_46 post n (nI step) nM nN (nI lc) (nI pc) (nI b) vs es lab ek ex px py pz ew od sec rdo sk sx sy sz sw dp so sh la pa vl ps pt pr) := by
  intro n step b vs es lc la pc pa ps pt pr s t r p q v lc' la' hs hstep hb hst hk hp h1 hq h2 E hsec h0 hlc H vl
  have a1 : ¬ (1000000 : Int32) ≤ nI step := nI_ge (b := 1000000) hstep (by decide)
  have a2 : ¬ nI (b + 1) ≤ 0 := nI_nle (by omega) (by omega)
  have c := nI_clamp (show s < 2 ^ 31 by omega)
  have i40 : vp_in (nI s) 40 := vp_in_nI (by omega) (by omega)
  have ib : vp_in (nI b) 30 := vp_in_nI hb (by omega)
  have cb := nI_clamp (show b < 2 ^ 31 by omega)
  refine br_f a1 (br_f a2 (nm_r (nI_pred b) ⟨ib, nm_r (e' := nI s) (by rw [cb]; exact hst.1) ⟨ib, nm_r (e' := nI t) (by rw [cb]; exact hst.2.1) ⟨ib, nm_r (e' := sk_bI r) (by rw [cb]; exact hst.2.2) ⟨i40, nm_r (e' := 3) (by rw [c]; exact hk) ?_⟩⟩⟩⟩))
  exact br_f (by decide) (br_f (by decide) (br_f (by decide) (br_f (by decide) (br_f (by decide) (br_t rfl (sk_xb3c hM HE (by omega) hp h1 (by omega) h2 E hsec h0 hlc hb (fun vl' => (nm_r (nI_1 step) (H _ _ _ (fun j hj => ⟨pk_un (by omega), pk_un (by omega), pk_un (by omega)⟩) ⟨pk_us, pk_us, pk_us⟩ vl')))))))))
theorem sk_tx3d {post : Int32 → SX → Prop} (hN : N ≤ 40) (hM : M ≤ 50) (HE : ∀ e, e < M → sk_node ek ex ey ez ew px py pz od e) : sk_rx3d M N ek ex ew od sec sk sx sy sz (fun n step b vs es lc la pc pa ps pt pr => ∀ vl : sk_F, wX_run_46 post n (nI step) nM nN (nI lc) (nI pc) (nI b) vs es lab ek ex px py pz ew od sec rdo sk sx sy sz sw dp so sh la pa vl ps pt pr) := by
  intro n step b vs es lc la pc pa ps pt pr s t r p q v lc' la' hs hstep hb hst hk hp h1 hq h2 E hsec h0 hz hlc H vl
  have a1 : ¬ (1000000 : Int32) ≤ nI step := nI_ge (b := 1000000) hstep (by decide)
  have a2 : ¬ nI (b + 1) ≤ 0 := nI_nle (by omega) (by omega)
  have c := nI_clamp (show s < 2 ^ 31 by omega)
  have i40 : vp_in (nI s) 40 := vp_in_nI (by omega) (by omega)
  have ib : vp_in (nI b) 30 := vp_in_nI hb (by omega)
  have cb := nI_clamp (show b < 2 ^ 31 by omega)
  refine br_f a1 (br_f a2 (nm_r (nI_pred b) ⟨ib, nm_r (e' := nI s) (by rw [cb]; exact hst.1) ⟨ib, nm_r (e' := nI t) (by rw [cb]; exact hst.2.1) ⟨ib, nm_r (e' := sk_bI r) (by rw [cb]; exact hst.2.2) ⟨i40, nm_r (e' := 3) (by rw [c]; exact hk) ?_⟩⟩⟩⟩))
  exact br_f (by decide) (br_f (by decide) (br_f (by decide) (br_f (by decide) (br_f (by decide) (br_t rfl (sk_xb3d (q := q) hM HE (by omega) hp h1 (by omega) h2 E hsec h0 hz hlc (fun vl' => (nm_r (nI_1 step) (H vl')))))))))
theorem sk_tx3e {post : Int32 → SX → Prop} (hN : N ≤ 40) (hM : M ≤ 50) (HE : ∀ e, e < M → sk_node ek ex ey ez ew px py pz od e) : sk_rx3e M N ek ex ew od sec sk sx sy sz (fun n step b vs es lc la pc pa ps pt pr => ∀ vl : sk_F, wX_run_46 post n (nI step) nM nN (nI lc) (nI pc) (nI b) vs es lab ek ex px py pz ew od sec rdo sk sx sy sz sw dp so sh la pa vl ps pt pr) := by
  intro n step b vs es lc la pc pa ps pt pr s t r p q z v lc' la' hs hstep hb hst hk hp h1 hq h2 E hsec h0 hzN hz hlc H vl
  have a1 : ¬ (1000000 : Int32) ≤ nI step := nI_ge (b := 1000000) hstep (by decide)
  have a2 : ¬ nI (b + 1) ≤ 0 := nI_nle (by omega) (by omega)
  have c := nI_clamp (show s < 2 ^ 31 by omega)
  have i40 : vp_in (nI s) 40 := vp_in_nI (by omega) (by omega)
  have ib : vp_in (nI b) 30 := vp_in_nI hb (by omega)
  have cb := nI_clamp (show b < 2 ^ 31 by omega)
  refine br_f a1 (br_f a2 (nm_r (nI_pred b) ⟨ib, nm_r (e' := nI s) (by rw [cb]; exact hst.1) ⟨ib, nm_r (e' := nI t) (by rw [cb]; exact hst.2.1) ⟨ib, nm_r (e' := sk_bI r) (by rw [cb]; exact hst.2.2) ⟨i40, nm_r (e' := 3) (by rw [c]; exact hk) ?_⟩⟩⟩⟩))
  exact br_f (by decide) (br_f (by decide) (br_f (by decide) (br_f (by decide) (br_f (by decide) (br_t rfl (sk_xb3e (q := q) hM HE (by omega) hp h1 (by omega) h2 E hsec h0 (by omega) hz hlc hb (fun vl' => (nm_r (nI_1 step) (H _ _ _ (fun j hj => ⟨pk_un (by omega), pk_un (by omega), pk_un (by omega)⟩) ⟨pk_us, pk_us, pk_us⟩ vl')))))))))
theorem sk_tx4a {post : Int32 → SX → Prop} (hN : N ≤ 40) (hM : M ≤ 50) (HE : ∀ e, e < M → sk_node ek ex ey ez ew px py pz od e) : sk_rx4a N sk sx sy (fun n step b vs es lc la pc pa ps pt pr => ∀ vl : sk_F, wX_run_46 post n (nI step) nM nN (nI lc) (nI pc) (nI b) vs es lab ek ex px py pz ew od sec rdo sk sx sy sz sw dp so sh la pa vl ps pt pr) := by
  intro n step b vs es lc la pc pa ps pt pr s t r x q hs hstep hb hst hk hx h1 hq h2 ht hb2 H vl
  have a1 : ¬ (1000000 : Int32) ≤ nI step := nI_ge (b := 1000000) hstep (by decide)
  have a2 : ¬ nI (b + 1) ≤ 0 := nI_nle (by omega) (by omega)
  have c := nI_clamp (show s < 2 ^ 31 by omega)
  have i40 : vp_in (nI s) 40 := vp_in_nI (by omega) (by omega)
  have ib : vp_in (nI b) 30 := vp_in_nI hb (by omega)
  have cb := nI_clamp (show b < 2 ^ 31 by omega)
  refine br_f a1 (br_f a2 (nm_r (nI_pred b) ⟨ib, nm_r (e' := nI s) (by rw [cb]; exact hst.1) ⟨ib, nm_r (e' := nI t) (by rw [cb]; exact hst.2.1) ⟨ib, nm_r (e' := sk_bI r) (by rw [cb]; exact hst.2.2) ⟨i40, nm_r (e' := 4) (by rw [c]; exact hk) ?_⟩⟩⟩⟩))
  exact br_f (by decide) (br_f (by decide) (br_f (by decide) (br_f (by decide) (br_f (by decide) (br_f (by decide) (br_t rfl ⟨i40, br_f (by rw [c, h1]; exact nI_ge ht (by omega)) (sk_xpt (by omega) (by omega) h2 hb2 (nm_r (nI_1 step) (H _ _ _ (fun j hj => ⟨(pk_un (by omega)).trans (pk_un (by omega)), (pk_un (by omega)).trans (pk_un (by omega)), (pk_un (by omega)).trans (pk_un (by omega))⟩) ⟨(pk_un (by omega)).trans pk_us, (pk_un (by omega)).trans pk_us, (pk_un (by omega)).trans pk_us⟩ ⟨pk_us, pk_us, pk_us⟩ vl)))⟩))))))
theorem sk_tx4b {post : Int32 → SX → Prop} (hN : N ≤ 40) (hM : M ≤ 50) (HE : ∀ e, e < M → sk_node ek ex ey ez ew px py pz od e) : sk_rx4b N sk sx (fun n step b vs es lc la pc pa ps pt pr => ∀ vl : sk_F, wX_run_46 post n (nI step) nM nN (nI lc) (nI pc) (nI b) vs es lab ek ex px py pz ew od sec rdo sk sx sy sz sw dp so sh la pa vl ps pt pr) := by
  intro n step b vs es lc la pc pa ps pt pr s t r x hs hstep hb hst hk hx h1 ht H vl
  have a1 : ¬ (1000000 : Int32) ≤ nI step := nI_ge (b := 1000000) hstep (by decide)
  have a2 : ¬ nI (b + 1) ≤ 0 := nI_nle (by omega) (by omega)
  have c := nI_clamp (show s < 2 ^ 31 by omega)
  have i40 : vp_in (nI s) 40 := vp_in_nI (by omega) (by omega)
  have ib : vp_in (nI b) 30 := vp_in_nI hb (by omega)
  have cb := nI_clamp (show b < 2 ^ 31 by omega)
  refine br_f a1 (br_f a2 (nm_r (nI_pred b) ⟨ib, nm_r (e' := nI s) (by rw [cb]; exact hst.1) ⟨ib, nm_r (e' := nI t) (by rw [cb]; exact hst.2.1) ⟨ib, nm_r (e' := sk_bI r) (by rw [cb]; exact hst.2.2) ⟨i40, nm_r (e' := 4) (by rw [c]; exact hk) ?_⟩⟩⟩⟩))
  exact br_f (by decide) (br_f (by decide) (br_f (by decide) (br_f (by decide) (br_f (by decide) (br_f (by decide) (br_t rfl ⟨i40, br_t (by rw [c, h1, ht]; exact nI_le (Nat.le_refl _) (by omega)) (nm_r (nI_1 step) (H vl))⟩))))))
theorem sk_tx5a {post : Int32 → SX → Prop} (hN : N ≤ 40) (hM : M ≤ 50) (HE : ∀ e, e < M → sk_node ek ex ey ez ew px py pz od e) : sk_rx5a M N ek ex ew od sk sx sy (fun n step b vs es lc la pc pa ps pt pr => ∀ vl : sk_F, wX_run_46 post n (nI step) nM nN (nI lc) (nI pc) (nI b) vs es lab ek ex px py pz ew od sec rdo sk sx sy sz sw dp so sh la pa vl ps pt pr) := by
  intro n step b vs es lc la pc pa ps pt pr s t r p q v lc' la' hs hstep hb hst hk hp h1 ht E hlc hq h2 h0 hb2 H vl
  have a1 : ¬ (1000000 : Int32) ≤ nI step := nI_ge (b := 1000000) hstep (by decide)
  have a2 : ¬ nI (b + 1) ≤ 0 := nI_nle (by omega) (by omega)
  have c := nI_clamp (show s < 2 ^ 31 by omega)
  have i40 : vp_in (nI s) 40 := vp_in_nI (by omega) (by omega)
  have ib : vp_in (nI b) 30 := vp_in_nI hb (by omega)
  have cb := nI_clamp (show b < 2 ^ 31 by omega)
  refine br_f a1 (br_f a2 (nm_r (nI_pred b) ⟨ib, nm_r (e' := nI s) (by rw [cb]; exact hst.1) ⟨ib, nm_r (e' := nI t) (by rw [cb]; exact hst.2.1) ⟨ib, nm_r (e' := sk_bI r) (by rw [cb]; exact hst.2.2) ⟨i40, nm_r (e' := 5) (by rw [c]; exact hk) ?_⟩⟩⟩⟩))
  exact br_f (by decide) (br_f (by decide) (br_f (by decide) (br_f (by decide) (br_f (by decide) (br_f (by decide) (br_f (by decide) (br_t rfl (sk_xl5a hM HE (by omega) ht hp h1 (by omega) h2 E h0 hlc hb2 (fun vl' => (nm_r (nI_1 step) (H _ _ _ (fun j hj => ⟨(pk_un (by omega)).trans (pk_un (by omega)), (pk_un (by omega)).trans (pk_un (by omega)), (pk_un (by omega)).trans (pk_un (by omega))⟩) ⟨(pk_un (by omega)).trans pk_us, (pk_un (by omega)).trans pk_us, (pk_un (by omega)).trans pk_us⟩ ⟨pk_us, pk_us, pk_us⟩ vl')))))))))))
theorem sk_tx5b {post : Int32 → SX → Prop} (hN : N ≤ 40) (hM : M ≤ 50) (HE : ∀ e, e < M → sk_node ek ex ey ez ew px py pz od e) : sk_rx5b M N ek ex ew od sk sx (fun n step b vs es lc la pc pa ps pt pr => ∀ vl : sk_F, wX_run_46 post n (nI step) nM nN (nI lc) (nI pc) (nI b) vs es lab ek ex px py pz ew od sec rdo sk sx sy sz sw dp so sh la pa vl ps pt pr) := by
  intro n step b vs es lc la pc pa ps pt pr s t r p v lc' la' hs hstep hb hst hk hp h1 ht E hlc h0 H vl
  have a1 : ¬ (1000000 : Int32) ≤ nI step := nI_ge (b := 1000000) hstep (by decide)
  have a2 : ¬ nI (b + 1) ≤ 0 := nI_nle (by omega) (by omega)
  have c := nI_clamp (show s < 2 ^ 31 by omega)
  have i40 : vp_in (nI s) 40 := vp_in_nI (by omega) (by omega)
  have ib : vp_in (nI b) 30 := vp_in_nI hb (by omega)
  have cb := nI_clamp (show b < 2 ^ 31 by omega)
  refine br_f a1 (br_f a2 (nm_r (nI_pred b) ⟨ib, nm_r (e' := nI s) (by rw [cb]; exact hst.1) ⟨ib, nm_r (e' := nI t) (by rw [cb]; exact hst.2.1) ⟨ib, nm_r (e' := sk_bI r) (by rw [cb]; exact hst.2.2) ⟨i40, nm_r (e' := 5) (by rw [c]; exact hk) ?_⟩⟩⟩⟩))
  exact br_f (by decide) (br_f (by decide) (br_f (by decide) (br_f (by decide) (br_f (by decide) (br_f (by decide) (br_f (by decide) (br_t rfl (sk_xl5b hM HE (by omega) ht hp h1 E h0 hlc (fun vl' => (nm_r (nI_1 step) (H vl')))))))))))
theorem sk_tx5c {post : Int32 → SX → Prop} (hN : N ≤ 40) (hM : M ≤ 50) (HE : ∀ e, e < M → sk_node ek ex ey ez ew px py pz od e) : sk_rx5c N sk (fun n step b vs es lc la pc pa ps pt pr => ∀ vl : sk_F, wX_run_46 post n (nI step) nM nN (nI lc) (nI pc) (nI b) vs es lab ek ex px py pz ew od sec rdo sk sx sy sz sw dp so sh la pa vl ps pt pr) := by
  intro n step b vs es lc la pc pa ps pt pr s t r hs hstep hb hst hk ht H vl
  have a1 : ¬ (1000000 : Int32) ≤ nI step := nI_ge (b := 1000000) hstep (by decide)
  have a2 : ¬ nI (b + 1) ≤ 0 := nI_nle (by omega) (by omega)
  have c := nI_clamp (show s < 2 ^ 31 by omega)
  have i40 : vp_in (nI s) 40 := vp_in_nI (by omega) (by omega)
  have ib : vp_in (nI b) 30 := vp_in_nI hb (by omega)
  have cb := nI_clamp (show b < 2 ^ 31 by omega)
  refine br_f a1 (br_f a2 (nm_r (nI_pred b) ⟨ib, nm_r (e' := nI s) (by rw [cb]; exact hst.1) ⟨ib, nm_r (e' := nI t) (by rw [cb]; exact hst.2.1) ⟨ib, nm_r (e' := sk_bI r) (by rw [cb]; exact hst.2.2) ⟨i40, nm_r (e' := 5) (by rw [c]; exact hk) ?_⟩⟩⟩⟩))
  exact br_f (by decide) (br_f (by decide) (br_f (by decide) (br_f (by decide) (br_f (by decide) (br_f (by decide) (br_f (by decide) (br_t rfl (sk_xl5c ht (nm_r (nI_1 step) (H vl))))))))))
theorem sk_tx6 {post : Int32 → SX → Prop} (hN : N ≤ 40) (hM : M ≤ 50) (HE : ∀ e, e < M → sk_node ek ex ey ez ew px py pz od e) : sk_rx6 M N ek ex ew od sk sx (fun n step b vs es lc la pc pa ps pt pr => ∀ vl : sk_F, wX_run_46 post n (nI step) nM nN (nI lc) (nI pc) (nI b) vs es lab ek ex px py pz ew od sec rdo sk sx sy sz sw dp so sh la pa vl ps pt pr) := by
  intro n step b vs es lc la pc pa ps pt pr s t r p v lc' la' hs hstep hb hst hk hp h1 E hr hpc H vl
  have a1 : ¬ (1000000 : Int32) ≤ nI step := nI_ge (b := 1000000) hstep (by decide)
  have a2 : ¬ nI (b + 1) ≤ 0 := nI_nle (by omega) (by omega)
  have c := nI_clamp (show s < 2 ^ 31 by omega)
  have i40 : vp_in (nI s) 40 := vp_in_nI (by omega) (by omega)
  have ib : vp_in (nI b) 30 := vp_in_nI hb (by omega)
  have cb := nI_clamp (show b < 2 ^ 31 by omega)
  subst hr
  refine br_f a1 (br_f a2 (nm_r (nI_pred b) ⟨ib, nm_r (e' := nI s) (by rw [cb]; exact hst.1) ⟨ib, nm_r (e' := nI t) (by rw [cb]; exact hst.2.1) ⟨ib, nm_r (e' := sk_bI true) (by rw [cb]; exact hst.2.2) ⟨i40, nm_r (e' := 6) (by rw [c]; exact hk) ?_⟩⟩⟩⟩))
  exact br_f (by decide) (br_t (by decide) (sk_xprint hM HE (by omega) hp h1 E hpc (fun vl' => (nm_r (nI_1 step) (H vl')))))
theorem sk_tx {post : Int32 → SX → Prop} (hN : N ≤ 40) (hM : M ≤ 50) (HE : ∀ e, e < M → sk_node ek ex ey ez ew px py pz od e) : sk_RXs M N ek ex ew od sec sk sx sy sz (fun n step b vs es lc la pc pa ps pt pr => ∀ vl : sk_F, wX_run_46 post n (nI step) nM nN (nI lc) (nI pc) (nI b) vs es lab ek ex px py pz ew od sec rdo sk sx sy sz sw dp so sh la pa vl ps pt pr) :=
  ⟨sk_tx0 hN hM HE, sk_tx1 hN hM HE, sk_tx2 hN hM HE, sk_tx3a hN hM HE, sk_tx3b hN hM HE, sk_tx3c hN hM HE, sk_tx3d hN hM HE, sk_tx3e hN hM HE, sk_tx4a hN hM HE, sk_tx4b hN hM HE, sk_tx5a hN hM HE, sk_tx5b hN hM HE, sk_tx5c hN hM HE, sk_tx6 hN hM HE⟩
end
end
section
/-! 08: Y: one leak; one step of the walk through an expression; an expression worked out -/
section
variable {nM nN de tq hg : Int32} {M N lc pc b d tp : Nat} {vs es lab ek ex ey ez px py pz ew od hid wld sk sx sy sz sw dp oS hS la pa wk aw fd dg st rl ch : sk_F}
theorem sk_yleak {post : SY → Prop} {v : Int32} (h : lc < 2 ^ 30) (H : post (nM, nN, nI (lc + 1), nI pc, de, tq, hg, ek, ex, ey, ez, ew, hid, wld, sk, sx, sy, sz, sw, dp, oS, hS, lab, vs, es, sk_put 200 lc la v, pa, wk, aw, fd, dg, st, rl, ch)) : wpY_leakOut post (nM, nN, nI lc, nI pc, de, tq, hg, ek, ex, ey, ez, ew, hid, wld, sk, sx, sy, sz, sw, dp, oS, hS, lab, vs, es, la, pa, wk, aw, fd, dg, st, rl, ch) v := by
  unfold wpY_leakOut
  dsimp only
  refine pk_le 200 lc (fun h2 => ?_) (fun h2 => ?_)
  · rw [sk_put_ge h2] at H
    exact nm_r (nI_1 lc) H
  · rw [sk_put_lt h2] at H
    exact ⟨vp_in_nI h2 (by omega), nm_r (by rw [nI_clamp (by omega)]) (nm_r (nI_1 lc) H)⟩
theorem sk_ybegin {post : SY → Prop} {p0 p1 : Int32} (e0 : p0 = p1) (h : d < 32) (H : post (nM, nN, nI lc, nI pc, nI (d + 1), nI tp, hg, ek, ex, ey, ez, ew, hid, wld, sk, sx, sy, sz, sw, dp, oS, hS, lab, vs, es, la, pa, upd wk d p1, upd aw d 0, fd, dg, st, rl, ch)) : wpY_begin post (nM, nN, nI lc, nI pc, nI d, nI tp, hg, ek, ex, ey, ez, ew, hid, wld, sk, sx, sy, sz, sw, dp, oS, hS, lab, vs, es, la, pa, wk, aw, fd, dg, st, rl, ch) p0 := by
  subst e0
  have i : vp_in (nI d) 32 := vp_in_nI h (by omega)
  have c := nI_clamp (show d < 2 ^ 31 by omega)
  unfold wpY_begin
  dsimp only
  rw [c]
  exact ⟨i, nm_e ⟨i, nm_e (nm_r (nI_1 d) H)⟩⟩
theorem sk_yjoin {post : Int32 → Prop} {k x y : Int32} (H : post (sk_cb k x y)) : wpY_joined post (nM, nN, nI lc, nI pc, de, tq, hg, ek, ex, ey, ez, ew, hid, wld, sk, sx, sy, sz, sw, dp, oS, hS, lab, vs, es, la, pa, wk, aw, fd, dg, st, rl, ch) k x y := by
  unfold wpY_joined
  dsimp only
  unfold sk_cb at H
  refine br_c (fun h => by rw [if_pos h] at H; exact H) (fun h => ?_)
  rw [if_neg h] at H
  refine br_c (fun h => by rw [if_pos h] at H; exact H) (fun h => ?_)
  rw [if_neg h] at H
  refine br_c (fun h => by rw [if_pos h] at H; exact H) (fun h => ?_)
  rw [if_neg h] at H
  refine br_c (fun h => by rw [if_pos h] at H; exact H) (fun h => ?_)
  rw [if_neg h] at H
  refine br_c (fun h => by rw [if_pos h] at H; exact H) (fun h => ?_)
  rw [if_neg h] at H
  refine br_c (fun h => by rw [if_pos h] at H; exact H) (fun h => ?_)
  rw [if_neg h] at H
  refine br_c (fun h => by rw [if_pos h] at H; exact H) (fun h => ?_)
  rw [if_neg h] at H
  refine br_c (fun h => by rw [if_pos h] at H; exact H) (fun h => ?_)
  rw [if_neg h] at H
  refine br_c (fun h => ?_) (fun h => ?_)
  · rw [if_pos h] at H
    refine br_c (fun h => by rw [if_pos h] at H; exact H) (fun h => by rw [if_neg h] at H; exact H)
  · rw [if_neg h] at H
    refine br_c (fun h => by rw [if_pos h] at H; exact H) (fun h => by rw [if_neg h] at H; exact H)
theorem sk_y45 {post : SY → Prop} {e : Nat} {z0 z1 : Int32} (he : e < 50) (hn : sk_node ek ex ey ez ew px py pz od e) (ht : tp < 31) (hz : z1 + z0 = nI (sk_ar ek e)) (hlc : lc < 2 ^ 30)
    (H : post (nM, nN, nI (sk_lc ek e lc), nI pc, nI d, nI (tp + 1), hg, ek, ex, ey, ez, ew, hid, wld, sk, sx, sy, sz, sw, dp, oS, hS, lab, vs, es, sk_la ek ex e (fd tp) lc la, pa, wk, aw, upd fd tp (sk_nv ek ex vs es e (fd tp) (fd (tp + 1)) (fd (tp + 2))), dg, st, rl, ch)) : wY_close_45 post (nI e) (ek e) z0 z1 nM nN (nI lc) (nI pc) (nI (d + 1)) (nI (tp + sk_ar ek e)) hg ek ex ey ez ew hid wld sk sx sy sz sw dp oS hS lab vs es la pa wk aw fd dg st rl ch := by
  have i50 : vp_in (nI e) 50 := vp_in_nI he (by omega)
  have it : vp_in (nI tp) 34 := vp_in_nI (by omega) (by omega)
  have i1 : vp_in (nI tp + 1) 34 := by rw [nI_1]; exact vp_in_nI (by omega) (by omega)
  have e2 : nI tp + 2 = nI (tp + 2) := by rw [show (2 : Int32) = nI 2 from rfl, nI_add]
  have i2 : vp_in (nI tp + 2) 34 := by rw [e2]; exact vp_in_nI (by omega) (by omega)
  have ce := nI_clamp (show e < 2 ^ 31 by omega)
  have ct := nI_clamp (show tp < 2 ^ 31 by omega)
  have c1 : (nI tp + 1).toNatClampNeg = tp + 1 := by rw [nI_1]; exact nI_clamp (by omega)
  have c2 : (nI tp + 2).toNatClampNeg = tp + 2 := by rw [e2]; exact nI_clamp (by omega)
  unfold wY_close_45 wY_close_216 wY_close_232
  refine nm_r hz (nm_r sk_sub ⟨it, nm_r (by rw [ct]) ⟨i1, nm_r (by rw [c1]) ?_⟩⟩)
  rw [ce, c2, ct]
  rcases hn.2 with ⟨k, _⟩ | ⟨k, _, _, _, _, v, hv, hx⟩ | ⟨k, _, _, a, p, ha, _, hx, _⟩ | ⟨k, _⟩ | ⟨k, _⟩ | ⟨k, _⟩
  · rw [sk_nv_0 k, sk_lc_n (sk_n2_0 k), sk_la_n (sk_n2_0 k)] at H
    exact br_t k ⟨i50, nm_e ⟨it, nm_e (nm_r (nI_1 tp) (nm_r (nI_pred d) H))⟩⟩
  · rw [sk_nv_1 k, sk_lc_n (sk_n2_1 k), sk_la_n (sk_n2_1 k)] at H
    have e7 : ex e &&& 7 = ex e := by
      rw [hx, pk_andN (by omega) 3 (by decide), Nat.mod_eq_of_lt (by omega)]
    rw [e7]
    exact br_f (by rw [k]; decide) (br_t k ⟨i50, by rw [hx]; exact vp_in_nI hv (by omega), nm_e ⟨it, nm_e (nm_r (nI_1 tp) (nm_r (nI_pred d) H))⟩⟩)
  · rw [sk_nv_2 k, sk_lc_2 k, sk_la_2 k] at H
    obtain ⟨j, hj, ej, ej2, ej3⟩ := sk_pl ha (fd tp)
    refine br_f (by rw [k]; decide) (br_f (by rw [k]; decide) (br_t k ⟨i50, ?_⟩))
    rw [hx, ej3 16]
    rw [hx] at H
    refine sk_yleak hlc ⟨i50, ?_⟩
    rw [hx, ej2, ct]
    rw [ej] at H ⊢
    exact ⟨vp_in_nI hj (by omega), nm_e ⟨it, nm_e (nm_r (nI_1 tp) (nm_r (nI_pred d) H))⟩⟩
  · rw [sk_nv_13 k, sk_lc_n (sk_n2_13 k), sk_la_n (sk_n2_13 k)] at H
    exact br_f (by rw [k]; decide) (br_f (by rw [k]; decide) (br_f (by rw [k]; decide) (br_t k (nm_e ⟨it, nm_e (nm_r (nI_1 tp) (nm_r (nI_pred d) H))⟩))))
  · rw [sk_nv_14 k, sk_lc_n (sk_n2_14 k), sk_la_n (sk_n2_14 k)] at H
    refine br_f (by rw [k]; decide) (br_f (by rw [k]; decide) (br_f (by rw [k]; decide) (br_f (by rw [k]; decide) (br_t k (br_c (fun z => ⟨i2, ?_⟩) (fun z => ?_))))))
    · rw [if_pos z] at H
      exact ⟨it, nm_e (nm_r (nI_1 tp) (nm_r (nI_pred d) H))⟩
    · rw [if_neg z] at H
      exact ⟨it, nm_e (nm_r (nI_1 tp) (nm_r (nI_pred d) H))⟩
  · rw [sk_nv_b k, sk_lc_n (sk_n2_b k), sk_la_n (sk_n2_b k)] at H
    obtain ⟨n0, n1, n2, n13, n14⟩ := sk_bin_ne k
    exact br_f n0 (br_f n1 (br_f n2 (br_f n13 (br_f n14 (sk_yjoin ⟨it, nm_e (nm_r (nI_1 tp) (nm_r (nI_pred d) H))⟩)))))
theorem sk_yclose {post : SY → Prop} {e : Nat} (he : e < 50) (hn : sk_node ek ex ey ez ew px py pz od e) (ht : tp < 31) (hlc : lc < 2 ^ 30)
    (H : post (nM, nN, nI (sk_lc ek e lc), nI pc, nI d, nI (tp + 1), hg, ek, ex, ey, ez, ew, hid, wld, sk, sx, sy, sz, sw, dp, oS, hS, lab, vs, es, sk_la ek ex e (fd tp) lc la, pa, wk, aw, upd fd tp (sk_nv ek ex vs es e (fd tp) (fd (tp + 1)) (fd (tp + 2))), dg, st, rl, ch)) : wpY_close post (nM, nN, nI lc, nI pc, nI (d + 1), nI (tp + sk_ar ek e), hg, ek, ex, ey, ez, ew, hid, wld, sk, sx, sy, sz, sw, dp, oS, hS, lab, vs, es, la, pa, wk, aw, fd, dg, st, rl, ch) (nI e) := by
  have i50 : vp_in (nI e) 50 := vp_in_nI he (by omega)
  have ce := nI_clamp (show e < 2 ^ 31 by omega)
  refine ⟨i50, nm_r (e' := ek e) (by rw [ce]) ?_⟩
  rcases hn.2 with ⟨k, _⟩ | ⟨k, _, _, _, _, v, hv, hx⟩ | ⟨k, _, _, a, p, ha, _, hx, _⟩ | ⟨k, _⟩ | ⟨k, _⟩ | ⟨k, _⟩
  · exact br_t (by rw [k]; decide) (br_t rfl (br_f (by rw [k]; decide) (br_t (by rw [k]; decide) (br_t rfl (br_f (by rw [k]; decide) (sk_y45 he hn ht (by rw [sk_ar_0 k]; decide) hlc H))))))
  · exact br_t (by rw [k]; decide) (br_t rfl (br_f (by rw [k]; decide) (br_t (by rw [k]; decide) (br_t rfl (br_f (by rw [k]; decide) (sk_y45 he hn ht (by rw [sk_ar_1 k]; decide) hlc H))))))
  · exact br_t (by rw [k]; decide) (br_t rfl (br_t k (br_f (by decide) (br_f (by rw [k]; decide) (sk_y45 he hn ht (by rw [sk_ar_2 k]; decide) hlc H)))))
  · exact br_f (by rw [k]; decide) (br_f (by decide) (br_f (by rw [k]; decide) (br_f (by rw [k]; decide) (br_t k (br_t rfl (br_f (by rw [k]; decide) (sk_y45 he hn ht (by rw [sk_ar_13 k]; decide) hlc H)))))))
  · exact br_f (by rw [k]; decide) (br_f (by decide) (br_f (by rw [k]; decide) (br_f (by rw [k]; decide) (br_f (by rw [k]; decide) (br_f (by decide) (br_t k (sk_y45 he hn ht (by rw [sk_ar_14 k]; decide) hlc H)))))))
  · obtain ⟨n0, n1, n2, n13, n14⟩ := sk_bin_ne k
    have g3 : ¬ ek e < 3 := Int32.not_lt.mpr (sk_bin_ge k)
    exact br_f g3 (br_f (by decide) (br_f n2 (br_f g3 (br_f n13 (br_f (by decide) (br_f n14 (sk_y45 he hn ht (by rw [sk_ar_b k]; decide) hlc H)))))))
theorem sk_ystc {post : SY → Prop} {e g : Nat} (he : e < 50) (hn : sk_node ek ex ey ez ew px py pz od e) (hd : d < 31) (ht : tp < 31) (hlc : lc < 2 ^ 30) (h1 : wk d = nI e) (h2 : aw d = nI g) (hc : sk_cl ek e g)
    (H : ∀ aw2 : sk_F, (∀ j, j < d → aw2 j = aw j) → post (nM, nN, nI (sk_lc ek e lc), nI pc, nI d, nI (tp + 1), hg, ek, ex, ey, ez, ew, hid, wld, sk, sx, sy, sz, sw, dp, oS, hS, lab, vs, es, sk_la ek ex e (fd tp) lc la, pa, wk, aw2, upd fd tp (sk_nv ek ex vs es e (fd tp) (fd (tp + 1)) (fd (tp + 2))), dg, st, rl, ch)) : wpY_stepIn post (nM, nN, nI lc, nI pc, nI (d + 1), nI (tp + sk_ar ek e), hg, ek, ex, ey, ez, ew, hid, wld, sk, sx, sy, sz, sw, dp, oS, hS, lab, vs, es, la, pa, wk, aw, fd, dg, st, rl, ch) := by
  have i50 : vp_in (nI e) 50 := vp_in_nI he (by omega)
  have ce := nI_clamp (show e < 2 ^ 31 by omega)
  have id : vp_in (nI d) 32 := vp_in_nI (by omega) (by omega)
  have cd := nI_clamp (show d < 2 ^ 31 by omega)
  have hp1 : nI (d + 1) - 1 = nI d := nI_pred d
  unfold wpY_stepIn
  dsimp only
  rw [hp1, cd]
  refine ⟨id, nm_r h1 ⟨i50, nm_r (e' := ek e) (by rw [ce]) ⟨id, nm_r h2 ⟨id, id, nm_e ?_⟩⟩⟩⟩
  have C := sk_yclose (post := post) (aw := upd aw d (aw d + 1)) (hg := hg) he hn ht hlc (H _ (fun j hj => pk_un (by omega)))
  rcases hc with ⟨k, rfl⟩ | ⟨k, rfl⟩ | ⟨k, rfl⟩ | ⟨k, rfl⟩ | ⟨k, rfl⟩
  · have k3 : ek e < 3 := by rcases k with k | k <;> rw [k] <;> decide
    have k2 : ¬ ek e = 2 := by rcases k with k | k <;> rw [k] <;> decide
    have k14 : ¬ ek e = 14 := by rcases k with k | k <;> rw [k] <;> decide
    exact br_t rfl (br_t k3 (br_t rfl (br_f (by decide) (br_f k2 (br_t k3 (br_t rfl (br_f (by decide) (br_f k14 C))))))))
  · exact br_f (by decide) (br_f (by decide) (br_f (by rw [k]; decide) (br_f (by rw [k]; decide) (br_t k (br_t rfl (br_f (by decide) (br_f (by rw [k]; decide) C)))))))
  · exact br_f (by decide) (br_t (by decide) (br_f (by decide) (br_f (by rw [k]; decide) C)))
  · exact br_f (by decide) (br_t (by decide) (br_f (by decide) (br_f (sk_bin_ne k).2.2.2.2 C)))
  · exact br_f (by decide) (br_t (by decide) (br_t (by decide) C))
theorem sk_ystb {post : SY → Prop} {e g g' p : Nat} (he : e < 50) (hd : d < 31) (h1 : wk d = nI e) (h2 : aw d = nI g) (hx : sk_nx ek ex ey ez e g g' p)
    (H : ∀ wk2 aw2 : sk_F, (∀ j, j < d + 1 → wk2 j = wk j) → (∀ j, j < d → aw2 j = aw j) → aw2 d = nI g' → wk2 (d + 1) = nI p → aw2 (d + 1) = 0 → post (nM, nN, nI lc, nI pc, nI (d + 1 + 1), nI tp, hg, ek, ex, ey, ez, ew, hid, wld, sk, sx, sy, sz, sw, dp, oS, hS, lab, vs, es, la, pa, wk2, aw2, fd, dg, st, rl, ch)) : wpY_stepIn post (nM, nN, nI lc, nI pc, nI (d + 1), nI tp, hg, ek, ex, ey, ez, ew, hid, wld, sk, sx, sy, sz, sw, dp, oS, hS, lab, vs, es, la, pa, wk, aw, fd, dg, st, rl, ch) := by
  have i50 : vp_in (nI e) 50 := vp_in_nI he (by omega)
  have ce := nI_clamp (show e < 2 ^ 31 by omega)
  have id : vp_in (nI d) 32 := vp_in_nI (by omega) (by omega)
  have cd := nI_clamp (show d < 2 ^ 31 by omega)
  have hp1 : nI (d + 1) - 1 = nI d := nI_pred d
  unfold wpY_stepIn
  dsimp only
  rw [hp1, cd]
  refine ⟨id, nm_r h1 ⟨i50, nm_r (e' := ek e) (by rw [ce]) ⟨id, nm_r h2 ⟨id, id, nm_e ?_⟩⟩⟩⟩
  have hb3 : ∀ {f : sk_F}, sk_bin f e → ¬ f e < 3 := fun z => Int32.not_lt.mpr (sk_bin_ge z)
  rcases hx with ⟨k, rfl, rfl, x⟩ | ⟨k, rfl, rfl, x⟩ | ⟨k, rfl, rfl, x⟩ | ⟨k, rfl, rfl, x⟩
  · refine br_t rfl (br_t (by rw [k]; decide) (br_t rfl (br_f (by decide) (br_t k (br_f (by decide) (br_f (by decide) (br_t (by rw [k]; decide) (br_t rfl ?_))))))))
    unfold wY_stepIn_97
    rw [hp1, cd]
    exact ⟨id, nm_e ⟨i50, sk_ybegin (by rw [ce]; exact x) (by omega) (H _ _ (fun j hj => pk_un (by omega)) (fun j hj => (pk_un (by omega)).trans ((pk_un (by omega)).trans (pk_un (by omega)))) ((pk_un (by omega)).trans pk_us) pk_us pk_us)⟩⟩
  · have k3 : ¬ ek e < 3 := by
      rcases k with k | k | k
      · rw [k]; decide
      · rw [k]; decide
      · exact hb3 k
    refine br_t rfl (br_f k3 (br_f (by decide) ⟨i50, ?_⟩))
    refine sk_ybegin (by rw [ce]; exact x) (by omega) (H _ _ (fun j hj => pk_un (by omega)) (fun j hj => (pk_un (by omega)).trans (pk_un (by omega))) ((pk_un (by omega)).trans (pk_us.trans (by rw [h2]; rfl))) pk_us pk_us)
  · have k3 : ¬ ek e < 3 := by
      rcases k with k | k
      · rw [k]; decide
      · exact hb3 k
    have k2 : ¬ ek e = 2 := by
      rcases k with k | k
      · rw [k]; decide
      · exact (sk_bin_ne k).2.2.1
    have k13 : ¬ ek e = 13 := by
      rcases k with k | k
      · rw [k]; decide
      · exact (sk_bin_ne k).2.2.2.1
    refine br_f (by decide) (br_f (by decide) (br_f k2 (br_f k3 (br_f k13 (br_f (by decide) (br_t rfl ?_))))))
    unfold wY_stepIn_97
    rw [hp1, cd]
    exact ⟨id, nm_e ⟨i50, sk_ybegin (by rw [ce]; exact x) (by omega) (H _ _ (fun j hj => pk_un (by omega)) (fun j hj => (pk_un (by omega)).trans ((pk_un (by omega)).trans (pk_un (by omega)))) ((pk_un (by omega)).trans pk_us) pk_us pk_us)⟩⟩
  · refine br_f (by decide) (br_t (by decide) (br_f (by decide) (br_t k ⟨i50, ?_⟩)))
    exact sk_ybegin (by rw [ce]; exact x) (by omega) (H _ _ (fun j hj => pk_un (by omega)) (fun j hj => (pk_un (by omega)).trans (pk_un (by omega))) ((pk_un (by omega)).trans (pk_us.trans (by rw [h2]; rfl))) pk_us pk_us)
/-- the loop of work keeps Y's rules -/
theorem sk_yry {post : Int32 → SY → Prop} (hM : M ≤ 50) (HE : ∀ e, e < M → sk_node ek ex ey ez ew px py pz od e) : sk_RY M ek ex ey ez vs es (fun n k d tp lc la wk aw fd => wY_work_17 post n (nI k) nM nN (nI lc) (nI pc) (nI d) (nI tp) hg ek ex ey ez ew hid wld sk sx sy sz sw dp oS hS lab vs es la pa wk aw fd dg st rl ch) := by
  constructor
  · intro n k d tp lc la wk aw fd e g he h1 h2 hc hk hd ht ht2 hlc H
    refine br_f (nI_ge (b := 120) hk (by decide)) (br_f (nI_nle (by omega) (by omega)) ?_)
    exact sk_ystc (by omega) (HE e he) hd ht hlc h1 h2 hc (fun aw2 h => nm_r (nI_1 k) (H aw2 h))
  · intro n k d tp lc la wk aw fd e g g' p he h1 h2 hx hk hd H
    refine br_f (nI_ge (b := 120) hk (by decide)) (br_f (nI_nle (by omega) (by omega)) ?_)
    exact sk_ystb (by omega) hd h1 h2 hx (fun wk2 aw2 a1 a2 a3 a4 a5 => nm_r (nI_1 k) (H wk2 aw2 a1 a2 a3 a4 a5))
theorem sk_ywork {post : Int32 → SY → Prop} {e lc' : Nat} {p0 v : Int32} {la' : sk_F} (e0 : p0 = nI e) (hM : M ≤ 50) (HE : ∀ e, e < M → sk_node ek ex ey ez ew px py pz od e) (he : e < M) (hv : sk_EvY M ek ex ey ez ew vs es e lc la v lc' la')
    (H : ∀ (de' tq' : Int32) (wk' aw' fd' : sk_F), post v (nM, nN, nI lc', nI pc, de', tq', hg, ek, ex, ey, ez, ew, hid, wld, sk, sx, sy, sz, sw, dp, oS, hS, lab, vs, es, la', pa, wk', aw', fd', dg, st, rl, ch)) : wpY_work post (nM, nN, nI lc, nI pc, de, tq, hg, ek, ex, ey, ez, ew, hid, wld, sk, sx, sy, sz, sw, dp, oS, hS, lab, vs, es, la, pa, wk, aw, fd, dg, st, rl, ch) p0 := by
  obtain ⟨⟨hwE, hw30, _⟩, _⟩ := HE e he
  have hw1 := sk_w1 (HE e he)
  unfold wpY_work
  dsimp only
  refine sk_ybegin (d := 0) (tp := 0) e0 (by omega) ⟨1 + (2 * sk_w ew e - 1), ?_⟩
  refine hv (fun n k d tp lc la wk aw fd => wY_work_17 post n (nI k) nM nN (nI lc) (nI pc) (nI d) (nI tp) hg ek ex ey ez ew hid wld sk sx sy sz sw dp oS hS lab vs es la pa wk aw fd dg st rl ch) (sk_yry hM HE) 1 0 0 0 (upd wk 0 (nI e)) (upd aw 0 0) fd pk_us pk_us (by omega) (by omega) (by omega) ?_
  intro wk2 aw2 fd2 _ _ h0
  refine br_f (nI_ge (b := 120) (by omega) (by decide)) (br_t (by decide) ?_)
  rw [h0]
  exact H _ _ _ _ _
end
end
section
/-! 09: Y: one step of a run, kind by kind -/
section
variable {nM nN de tq : Int32} {M N lc pc b : Nat} {vs es lab ek ex ey ez px py pz ew od hid wld sec sk sx sy sz sw dp oS hS la pa wk aw fd dg st rl ch : sk_F}
theorem sk_ystart {post : SY → Prop} {s : Nat} {p0 r f : Int32} (e0 : p0 = nI s) (hf : vp_nar .boolean r = f) (hb : b < 31) (H : post (nM, nN, nI lc, nI pc, de, tq, nI (b + 1 + 1), ek, ex, ey, ez, ew, hid, wld, sk, sx, sy, sz, sw, dp, oS, hS, lab, vs, es, la, pa, wk, aw, fd, upd dg (b + 1) (nI s), upd st (b + 1) 0, upd rl (b + 1) f, ch)) : wpY_start post (nM, nN, nI lc, nI pc, de, tq, nI (b + 1), ek, ex, ey, ez, ew, hid, wld, sk, sx, sy, sz, sw, dp, oS, hS, lab, vs, es, la, pa, wk, aw, fd, dg, st, rl, ch) p0 r := by
  subst e0 hf
  have i : vp_in (nI (b + 1)) 32 := vp_in_nI (by omega) (by omega)
  have c := nI_clamp (show b + 1 < 2 ^ 31 by omega)
  unfold wpY_start
  dsimp only
  rw [c]
  exact ⟨i, nm_e ⟨i, nm_e ⟨i, nm_e (nm_r (nI_1 (b + 1)) H)⟩⟩⟩
theorem sk_a7 {x : Nat} (hx : x < 8) : nI x &&& 7 = nI x := by
  rw [pk_andN (by omega) 3 (by decide), Nat.mod_eq_of_lt (by omega)]
theorem sk_yp0 {post : SY → Prop} {s x p lc' : Nat} {r : Bool} {v p1 : Int32} {la' : sk_F} (hM : M ≤ 50) (HE : ∀ e, e < M → sk_node ek ex ey ez ew px py pz od e) (hs : s < 40) (hk : sk s = 0) (er : p1 = sk_bI r) (hx : x < 8) (h1 : sx s = nI x) (hp : p < M) (h2 : sy s = nI p) (hv : sk_EvY M ek ex ey ez ew vs es p lc la v lc' la')
    (H : ∀ (de' tq' : Int32) (wk' aw' fd' : sk_F), post (nM, nN, nI lc', nI pc, de', tq', nI b, ek, ex, ey, ez, ew, hid, wld, sk, sx, sy, sz, sw, dp, oS, hS, lab, if r then upd vs x v else vs, es, la', pa, wk', aw', fd', dg, st, rl, ch)) : wpY_plain post (nM, nN, nI lc, nI pc, de, tq, nI (b + 1), ek, ex, ey, ez, ew, hid, wld, sk, sx, sy, sz, sw, dp, oS, hS, lab, vs, es, la, pa, wk, aw, fd, dg, st, rl, ch) (nI s) p1 := by
  subst er
  have i : vp_in (nI s) 40 := vp_in_nI hs (by omega)
  have c := nI_clamp (show s < 2 ^ 31 by omega)
  refine ⟨i, nm_r (e' := 0) (by rw [c]; exact hk) (br_t rfl ⟨i, sk_ywork (by rw [c]; exact h2) hM HE hp hv (fun de' tq' wk' aw' fd' => ?_)⟩)⟩
  cases r with
  | false => exact br_t sk_t0 (nm_r (nI_pred b) (H _ _ _ _ _))
  | true =>
    refine br_f sk_t1 ⟨i, by rw [c, h1, sk_a7 hx]; exact vp_in_nI hx (by omega), nm_r (e' := upd vs x v) (by rw [c, h1, sk_a7 hx, nI_clamp (by omega)]) (nm_r (nI_pred b) (H _ _ _ _ _))⟩
theorem sk_yp1 {post : SY → Prop} {s a p q lc1 lc' : Nat} {r : Bool} {i v p1 : Int32} {la1 la' : sk_F} (hM : M ≤ 50) (HE : ∀ e, e < M → sk_node ek ex ey ez ew px py pz od e) (hs : s < 40) (hk : sk s = 1) (er : p1 = sk_bI r) (ha : a < 2) (h1 : sx s = nI a) (hp : p < M) (h2 : sy s = nI p) (hq : q < M) (h3 : sz s = nI q)
    (hv1 : sk_EvY M ek ex ey ez ew vs es p lc la i lc1 la1) (hv : sk_EvY M ek ex ey ez ew vs es q lc1 la1 v lc' la') (hlc : lc' < 2 ^ 30)
    (H : ∀ (de' tq' : Int32) (wk' aw' fd' : sk_F), post (nM, nN, nI (lc' + 1), nI pc, de', tq', nI b, ek, ex, ey, ez, ew, hid, wld, sk, sx, sy, sz, sw, dp, oS, hS, lab, vs, if r then upd es (sk_at (nI a) i).toNatClampNeg v else es, sk_put 200 lc' la' (32 + sk_at (nI a) i), pa, wk', aw', fd', dg, st, rl, ch)) : wpY_plain post (nM, nN, nI lc, nI pc, de, tq, nI (b + 1), ek, ex, ey, ez, ew, hid, wld, sk, sx, sy, sz, sw, dp, oS, hS, lab, vs, es, la, pa, wk, aw, fd, dg, st, rl, ch) (nI s) p1 := by
  subst er
  have i40 : vp_in (nI s) 40 := vp_in_nI hs (by omega)
  have c := nI_clamp (show s < 2 ^ 31 by omega)
  obtain ⟨j, hj, ej, ej2, ej3⟩ := sk_pl ha i
  refine ⟨i40, nm_r (e' := 1) (by rw [c]; exact hk) (br_f (by decide) (br_t rfl ⟨i40, sk_ywork (by rw [c]; exact h2) hM HE hp hv1 (fun de1 tq1 wk1 aw1 fd1 => nm_e ⟨i40, sk_ywork (by rw [c]; exact h3) hM HE hq hv (fun de' tq' wk' aw' fd' => ⟨i40, ?_⟩)⟩)⟩))⟩
  have e1 : 32 + 8 * sx (nI s).toNatClampNeg + (i &&& 7) = 32 + sk_at (nI a) i := by rw [c, h1, ej3 32]
  rw [e1]
  refine sk_yleak hlc ?_
  cases r with
  | false => exact br_t sk_t0 (nm_r (nI_pred b) (H _ _ _ _ _))
  | true =>
    have e2 : 8 * (sx (nI s).toNatClampNeg &&& 1) + (i &&& 7) = nI j := by rw [c, h1, ej2]
    exact br_f sk_t1 ⟨i40, by rw [e2]; exact vp_in_nI hj (by omega), nm_r (e' := upd es (sk_at (nI a) i).toNatClampNeg v) (by rw [e2, ej]) (nm_r (nI_pred b) (H _ _ _ _ _))⟩
theorem sk_yp6 {post : SY → Prop} {s p lc' : Nat} {v p1 : Int32} {la' : sk_F} (hM : M ≤ 50) (HE : ∀ e, e < M → sk_node ek ex ey ez ew px py pz od e) (hs : s < 40) (hk : sk s = 6) (hp : p < M) (h1 : sx s = nI p) (hv : sk_EvY M ek ex ey ez ew vs es p lc la v lc' la') (hpc : pc < 2 ^ 30)
    (H : ∀ (de' tq' : Int32) (wk' aw' fd' : sk_F), post (nM, nN, nI lc', nI (pc + 1), de', tq', nI b, ek, ex, ey, ez, ew, hid, wld, sk, sx, sy, sz, sw, dp, oS, hS, lab, vs, es, la', sk_put 20 pc pa v, wk', aw', fd', dg, st, rl, ch)) : wpY_plain post (nM, nN, nI lc, nI pc, de, tq, nI (b + 1), ek, ex, ey, ez, ew, hid, wld, sk, sx, sy, sz, sw, dp, oS, hS, lab, vs, es, la, pa, wk, aw, fd, dg, st, rl, ch) (nI s) p1 := by
  have i : vp_in (nI s) 40 := vp_in_nI hs (by omega)
  have c := nI_clamp (show s < 2 ^ 31 by omega)
  refine ⟨i, nm_r (e' := 6) (by rw [c]; exact hk) (br_f (by decide) (br_f (by decide) ⟨i, sk_ywork (by rw [c]; exact h1) hM HE hp hv (fun de' tq' wk' aw' fd' => ?_)⟩))⟩
  have H' := H de' tq' wk' aw' fd'
  refine pk_le 20 pc (fun h2 => ?_) (fun h2 => ?_)
  · rw [sk_put_ge h2] at H'
    exact nm_r (nI_1 pc) (nm_r (nI_pred b) H')
  · rw [sk_put_lt h2] at H'
    exact ⟨vp_in_nI h2 (by omega), nm_r (by rw [nI_clamp (by omega)]) (nm_r (nI_1 pc) (nm_r (nI_pred b) H'))⟩
theorem sk_ty0 {post : Int32 → SY → Prop} (hN : N ≤ 40) (hM : M ≤ 50) (HE : ∀ e, e < M → sk_node ek ex ey ez ew px py pz od e) (hsc : ∀ p, p < M → (hid p = 0 ↔ sec p = 0)) : sk_ry0 M N ek ex ey ez ew sk sx sy (fun n k b vs es lc la pc pa dg st rl ch => ∀ (de tq : Int32) (wk aw fd : sk_F), wY_run_44 post n (nI k) nM nN (nI lc) (nI pc) de tq (nI b) ek ex ey ez ew hid wld sk sx sy sz sw dp oS hS lab vs es la pa wk aw fd dg st rl ch) := by
  intro n k b vs es lc la pc pa dg st rl ch s g r x p v lc' la' hs hk hb hst hkk hx h1 hp h2 E H de tq wk aw fd
  have a1 : ¬ (60000 : Int32) ≤ nI k := nI_ge (b := 60000) hk (by decide)
  have a2 : ¬ nI (b + 1) ≤ 0 := nI_nle (by omega) (by omega)
  have c := nI_clamp (show s < 2 ^ 31 by omega)
  have i40 : vp_in (nI s) 40 := vp_in_nI (by omega) (by omega)
  have ib : vp_in (nI b) 32 := vp_in_nI (by omega) (by omega)
  have cb := nI_clamp (show b < 2 ^ 31 by omega)
  have er : rl (nI b).toNatClampNeg = sk_bI r := by rw [cb]; exact hst.2.2
  have eb : vp_nar .boolean (rl (nI b).toNatClampNeg) = sk_bI r := by rw [er]; exact sk_nb r
  have ed : dg (nI b).toNatClampNeg = nI s := by rw [cb]; exact hst.1
  refine br_f a1 (br_f a2 (nm_r (nI_pred b) ⟨ib, nm_r (e' := nI s) ed ⟨ib, nm_r (e' := nI g) (by rw [cb]; exact hst.2.1) ⟨ib, ib, nm_r (e' := upd st b (nI (g + 1))) (by rw [cb, hst.2.1, nI_1]) ⟨i40, nm_r (e' := 0) (by rw [c]; exact hkk) ?_⟩⟩⟩⟩))
  exact br_t (by decide) ⟨ib, sk_yp0 hM HE (by omega) hkk er hx h1 hp h2 E (fun de' tq' wk' aw' fd' => nm_r (nI_1 k) (H _ _ _ _ (fun j hj => ⟨rfl, pk_un (by omega), rfl, rfl⟩) _ _ _ _ _))⟩
theorem sk_ty1 {post : Int32 → SY → Prop} (hN : N ≤ 40) (hM : M ≤ 50) (HE : ∀ e, e < M → sk_node ek ex ey ez ew px py pz od e) (hsc : ∀ p, p < M → (hid p = 0 ↔ sec p = 0)) : sk_ry1 M N ek ex ey ez ew sk sx sy sz (fun n k b vs es lc la pc pa dg st rl ch => ∀ (de tq : Int32) (wk aw fd : sk_F), wY_run_44 post n (nI k) nM nN (nI lc) (nI pc) de tq (nI b) ek ex ey ez ew hid wld sk sx sy sz sw dp oS hS lab vs es la pa wk aw fd dg st rl ch) := by
  intro n k b vs es lc la pc pa dg st rl ch s g r a p q i lc1 la1 v lc' la' hs hk hb hst hkk ha h1 hp h2 hq h3 E1 E hlc H de tq wk aw fd
  have a1 : ¬ (60000 : Int32) ≤ nI k := nI_ge (b := 60000) hk (by decide)
  have a2 : ¬ nI (b + 1) ≤ 0 := nI_nle (by omega) (by omega)
  have c := nI_clamp (show s < 2 ^ 31 by omega)
  have i40 : vp_in (nI s) 40 := vp_in_nI (by omega) (by omega)
  have ib : vp_in (nI b) 32 := vp_in_nI (by omega) (by omega)
  have cb := nI_clamp (show b < 2 ^ 31 by omega)
  have er : rl (nI b).toNatClampNeg = sk_bI r := by rw [cb]; exact hst.2.2
  have eb : vp_nar .boolean (rl (nI b).toNatClampNeg) = sk_bI r := by rw [er]; exact sk_nb r
  have ed : dg (nI b).toNatClampNeg = nI s := by rw [cb]; exact hst.1
  refine br_f a1 (br_f a2 (nm_r (nI_pred b) ⟨ib, nm_r (e' := nI s) ed ⟨ib, nm_r (e' := nI g) (by rw [cb]; exact hst.2.1) ⟨ib, ib, nm_r (e' := upd st b (nI (g + 1))) (by rw [cb, hst.2.1, nI_1]) ⟨i40, nm_r (e' := 1) (by rw [c]; exact hkk) ?_⟩⟩⟩⟩))
  exact br_t (by decide) ⟨ib, sk_yp1 hM HE (by omega) hkk er ha h1 hp h2 hq h3 E1 E hlc (fun de' tq' wk' aw' fd' => nm_r (nI_1 k) (H _ _ _ _ (fun j hj => ⟨rfl, pk_un (by omega), rfl, rfl⟩) _ _ _ _ _))⟩
theorem sk_ty6 {post : Int32 → SY → Prop} (hN : N ≤ 40) (hM : M ≤ 50) (HE : ∀ e, e < M → sk_node ek ex ey ez ew px py pz od e) (hsc : ∀ p, p < M → (hid p = 0 ↔ sec p = 0)) : sk_ry6 M N ek ex ey ez ew sk sx (fun n k b vs es lc la pc pa dg st rl ch => ∀ (de tq : Int32) (wk aw fd : sk_F), wY_run_44 post n (nI k) nM nN (nI lc) (nI pc) de tq (nI b) ek ex ey ez ew hid wld sk sx sy sz sw dp oS hS lab vs es la pa wk aw fd dg st rl ch) := by
  intro n k b vs es lc la pc pa dg st rl ch s g r p v lc' la' hs hk hb hst hkk hp h1 E hpc H de tq wk aw fd
  have a1 : ¬ (60000 : Int32) ≤ nI k := nI_ge (b := 60000) hk (by decide)
  have a2 : ¬ nI (b + 1) ≤ 0 := nI_nle (by omega) (by omega)
  have c := nI_clamp (show s < 2 ^ 31 by omega)
  have i40 : vp_in (nI s) 40 := vp_in_nI (by omega) (by omega)
  have ib : vp_in (nI b) 32 := vp_in_nI (by omega) (by omega)
  have cb := nI_clamp (show b < 2 ^ 31 by omega)
  have er : rl (nI b).toNatClampNeg = sk_bI r := by rw [cb]; exact hst.2.2
  have eb : vp_nar .boolean (rl (nI b).toNatClampNeg) = sk_bI r := by rw [er]; exact sk_nb r
  have ed : dg (nI b).toNatClampNeg = nI s := by rw [cb]; exact hst.1
  refine br_f a1 (br_f a2 (nm_r (nI_pred b) ⟨ib, nm_r (e' := nI s) ed ⟨ib, nm_r (e' := nI g) (by rw [cb]; exact hst.2.1) ⟨ib, ib, nm_r (e' := upd st b (nI (g + 1))) (by rw [cb, hst.2.1, nI_1]) ⟨i40, nm_r (e' := 6) (by rw [c]; exact hkk) ?_⟩⟩⟩⟩))
  exact br_f (by decide) (br_t rfl ⟨ib, sk_yp6 hM HE (by omega) hkk hp h1 E hpc (fun de' tq' wk' aw' fd' => nm_r (nI_1 k) (H _ _ _ _ (fun j hj => ⟨rfl, pk_un (by omega), rfl, rfl⟩) _ _ _ _ _))⟩)
theorem sk_ty2a {post : Int32 → SY → Prop} (hN : N ≤ 40) (hM : M ≤ 50) (HE : ∀ e, e < M → sk_node ek ex ey ez ew px py pz od e) (hsc : ∀ p, p < M → (hid p = 0 ↔ sec p = 0)) : sk_ry2a N sk sx (fun n k b vs es lc la pc pa dg st rl ch => ∀ (de tq : Int32) (wk aw fd : sk_F), wY_run_44 post n (nI k) nM nN (nI lc) (nI pc) de tq (nI b) ek ex ey ez ew hid wld sk sx sy sz sw dp oS hS lab vs es la pa wk aw fd dg st rl ch) := by
  intro n k b vs es lc la pc pa dg st rl ch s g r p hs hk hb hst hkk hp h1 hg H de tq wk aw fd
  have a1 : ¬ (60000 : Int32) ≤ nI k := nI_ge (b := 60000) hk (by decide)
  have a2 : ¬ nI (b + 1) ≤ 0 := nI_nle (by omega) (by omega)
  have c := nI_clamp (show s < 2 ^ 31 by omega)
  have i40 : vp_in (nI s) 40 := vp_in_nI (by omega) (by omega)
  have ib : vp_in (nI b) 32 := vp_in_nI (by omega) (by omega)
  have cb := nI_clamp (show b < 2 ^ 31 by omega)
  have er : rl (nI b).toNatClampNeg = sk_bI r := by rw [cb]; exact hst.2.2
  have eb : vp_nar .boolean (rl (nI b).toNatClampNeg) = sk_bI r := by rw [er]; exact sk_nb r
  have ed : dg (nI b).toNatClampNeg = nI s := by rw [cb]; exact hst.1
  subst hg
  refine br_f a1 (br_f a2 (nm_r (nI_pred b) ⟨ib, nm_r (e' := nI s) ed ⟨ib, nm_r (e' := nI 0) (by rw [cb]; exact hst.2.1) ⟨ib, ib, nm_r (e' := upd st b (nI (0 + 1))) (by rw [cb, hst.2.1, nI_1]) ⟨i40, nm_r (e' := 2) (by rw [c]; exact hkk) ?_⟩⟩⟩⟩))
  exact br_f (by decide) (br_f (by decide) (br_t rfl (br_f (by decide) (br_t rfl ⟨i40, ib, sk_ystart (by rw [c]; exact h1) eb hb (nm_r (nI_1 k) (H _ _ _ _ (fun j hj => ⟨pk_un (by omega), (pk_un (by omega)).trans (pk_un (by omega)), pk_un (by omega), rfl⟩) ⟨(pk_un (by omega)).trans hst.1, (pk_un (by omega)).trans pk_us, (pk_un (by omega)).trans hst.2.2⟩ ⟨pk_us, pk_us, pk_us⟩ _ _ _ _ _))⟩))))
theorem sk_ty2b {post : Int32 → SY → Prop} (hN : N ≤ 40) (hM : M ≤ 50) (HE : ∀ e, e < M → sk_node ek ex ey ez ew px py pz od e) (hsc : ∀ p, p < M → (hid p = 0 ↔ sec p = 0)) : sk_ry2b N sk sy (fun n k b vs es lc la pc pa dg st rl ch => ∀ (de tq : Int32) (wk aw fd : sk_F), wY_run_44 post n (nI k) nM nN (nI lc) (nI pc) de tq (nI b) ek ex ey ez ew hid wld sk sx sy sz sw dp oS hS lab vs es la pa wk aw fd dg st rl ch) := by
  intro n k b vs es lc la pc pa dg st rl ch s g r q hs hk hb hst hkk hp h1 hg H de tq wk aw fd
  have a1 : ¬ (60000 : Int32) ≤ nI k := nI_ge (b := 60000) hk (by decide)
  have a2 : ¬ nI (b + 1) ≤ 0 := nI_nle (by omega) (by omega)
  have c := nI_clamp (show s < 2 ^ 31 by omega)
  have i40 : vp_in (nI s) 40 := vp_in_nI (by omega) (by omega)
  have ib : vp_in (nI b) 32 := vp_in_nI (by omega) (by omega)
  have cb := nI_clamp (show b < 2 ^ 31 by omega)
  have er : rl (nI b).toNatClampNeg = sk_bI r := by rw [cb]; exact hst.2.2
  have eb : vp_nar .boolean (rl (nI b).toNatClampNeg) = sk_bI r := by rw [er]; exact sk_nb r
  have ed : dg (nI b).toNatClampNeg = nI s := by rw [cb]; exact hst.1
  subst hg
  refine br_f a1 (br_f a2 (nm_r (nI_pred b) ⟨ib, nm_r (e' := nI s) ed ⟨ib, nm_r (e' := nI 1) (by rw [cb]; exact hst.2.1) ⟨ib, ib, nm_r (e' := upd st b (nI (1 + 1))) (by rw [cb, hst.2.1, nI_1]) ⟨i40, nm_r (e' := 2) (by rw [c]; exact hkk) ?_⟩⟩⟩⟩))
  exact br_f (by decide) (br_f (by decide) (br_t rfl (br_f (by decide) (br_f (by decide) ⟨i40, ib, sk_ystart (by rw [c]; exact h1) eb hb (nm_r (nI_1 k) (H _ _ _ _ (fun j hj => ⟨pk_un (by omega), (pk_un (by omega)).trans (pk_un (by omega)), pk_un (by omega), rfl⟩) ⟨(pk_un (by omega)).trans hst.1, (pk_un (by omega)).trans pk_us, (pk_un (by omega)).trans hst.2.2⟩ ⟨pk_us, pk_us, pk_us⟩ _ _ _ _ _))⟩))))
theorem sk_ty2c {post : Int32 → SY → Prop} (hN : N ≤ 40) (hM : M ≤ 50) (HE : ∀ e, e < M → sk_node ek ex ey ez ew px py pz od e) (hsc : ∀ p, p < M → (hid p = 0 ↔ sec p = 0)) : sk_ry2c N sk (fun n k b vs es lc la pc pa dg st rl ch => ∀ (de tq : Int32) (wk aw fd : sk_F), wY_run_44 post n (nI k) nM nN (nI lc) (nI pc) de tq (nI b) ek ex ey ez ew hid wld sk sx sy sz sw dp oS hS lab vs es la pa wk aw fd dg st rl ch) := by
  intro n k b vs es lc la pc pa dg st rl ch s g r hs hk hb hst hkk hg H de tq wk aw fd
  have a1 : ¬ (60000 : Int32) ≤ nI k := nI_ge (b := 60000) hk (by decide)
  have a2 : ¬ nI (b + 1) ≤ 0 := nI_nle (by omega) (by omega)
  have c := nI_clamp (show s < 2 ^ 31 by omega)
  have i40 : vp_in (nI s) 40 := vp_in_nI (by omega) (by omega)
  have ib : vp_in (nI b) 32 := vp_in_nI (by omega) (by omega)
  have cb := nI_clamp (show b < 2 ^ 31 by omega)
  have er : rl (nI b).toNatClampNeg = sk_bI r := by rw [cb]; exact hst.2.2
  have eb : vp_nar .boolean (rl (nI b).toNatClampNeg) = sk_bI r := by rw [er]; exact sk_nb r
  have ed : dg (nI b).toNatClampNeg = nI s := by rw [cb]; exact hst.1
  subst hg
  refine br_f a1 (br_f a2 (nm_r (nI_pred b) ⟨ib, nm_r (e' := nI s) ed ⟨ib, nm_r (e' := nI 2) (by rw [cb]; exact hst.2.1) ⟨ib, ib, nm_r (e' := upd st b (nI (2 + 1))) (by rw [cb, hst.2.1, nI_1]) ⟨i40, nm_r (e' := 2) (by rw [c]; exact hkk) ?_⟩⟩⟩⟩))
  exact br_f (by decide) (br_f (by decide) (br_t rfl (br_t rfl (nm_r (nI_pred b) (nm_r (nI_1 k) (H _ _ _ _ (fun j hj => ⟨rfl, pk_un (by omega), rfl, rfl⟩) _ _ _ _ _))))))
theorem sk_ty3a {post : Int32 → SY → Prop} (hN : N ≤ 40) (hM : M ≤ 50) (HE : ∀ e, e < M → sk_node ek ex ey ez ew px py pz od e) (hsc : ∀ p, p < M → (hid p = 0 ↔ sec p = 0)) : sk_ry3a M N ek ex ey ez ew sec sk sx sy (fun n k b vs es lc la pc pa dg st rl ch => ∀ (de tq : Int32) (wk aw fd : sk_F), wY_run_44 post n (nI k) nM nN (nI lc) (nI pc) de tq (nI b) ek ex ey ez ew hid wld sk sx sy sz sw dp oS hS lab vs es la pa wk aw fd dg st rl ch) := by
  intro n k b vs es lc la pc pa dg st rl ch s g r p q v lc' la' hs hk hb hst hkk hg hp h1 hq h2 E hsec H de tq wk aw fd
  have a1 : ¬ (60000 : Int32) ≤ nI k := nI_ge (b := 60000) hk (by decide)
  have a2 : ¬ nI (b + 1) ≤ 0 := nI_nle (by omega) (by omega)
  have c := nI_clamp (show s < 2 ^ 31 by omega)
  have i40 : vp_in (nI s) 40 := vp_in_nI (by omega) (by omega)
  have ib : vp_in (nI b) 32 := vp_in_nI (by omega) (by omega)
  have cb := nI_clamp (show b < 2 ^ 31 by omega)
  have er : rl (nI b).toNatClampNeg = sk_bI r := by rw [cb]; exact hst.2.2
  have ed : dg (nI b).toNatClampNeg = nI s := by rw [cb]; exact hst.1
  subst hg
  have ip : vp_in (nI p) 50 := vp_in_nI (by omega) (by omega)
  have cp := nI_clamp (show p < 2 ^ 31 by omega)
  have ep : sx (nI s).toNatClampNeg = nI p := by rw [c]; exact h1
  have hh : ¬ hid p = 0 := fun z => hsec ((hsc p hp).mp z)
  refine br_f a1 (br_f a2 (nm_r (nI_pred b) ⟨ib, nm_r (e' := nI s) ed ⟨ib, nm_r (e' := nI 0) (by rw [cb]; exact hst.2.1) ⟨ib, ib, nm_r (e' := upd st b (nI (0 + 1))) (by rw [cb, hst.2.1, nI_1]) ⟨i40, nm_r (e' := 3) (by rw [c]; exact hkk) ?_⟩⟩⟩⟩))
  refine br_f (by decide) (br_f (by decide) (br_f (by decide) (br_t rfl ⟨ib, nm_r (e' := nI s) ed ⟨i40, by rw [ep]; exact ip, nm_r (e' := hid p) (by rw [ep, cp]) (br_t rfl ⟨i40, sk_ywork ep hM HE hp E (fun de' tq' wk' aw' fd' => ?_)⟩)⟩⟩)))
  unfold wY_choice_51 wY_choice_68 wY_choice_71 wY_choice_85 wY_choice_114 wY_choice_115
  by_cases h0 : v = 0
  · have d2 : decide (¬ v = 0) = false := decide_eq_false (fun z => z h0)
    rw [d2] at H
    refine br_t h0 ⟨ib, (nm_r (e' := upd ch b (sk_bI false)) (by rw [cb]; rfl) (br_f hh (br_f hh ?_)))⟩
    cases r with
    | false => exact ⟨i40, ib, br_t (er.trans sk_t0) (sk_ystart (by rw [c]; exact h2) rfl hb (nm_r (nI_1 k) (H _ _ _ _ (fun j hj => ⟨pk_un (by omega), (pk_un (by omega)).trans (pk_un (by omega)), pk_un (by omega), pk_un (by omega)⟩) ⟨(pk_un (by omega)).trans hst.1, (pk_un (by omega)).trans pk_us, (pk_un (by omega)).trans hst.2.2⟩ pk_us ⟨pk_us, pk_us, pk_us⟩ _ _ _ _ _)))⟩
    | true => exact ⟨i40, ib, br_f (fun z => sk_t1 (er.symm.trans z)) ⟨ib, br_t (by rw [cb]; exact pk_us) (sk_ystart (by rw [c]; exact h2) rfl hb (nm_r (nI_1 k) (H _ _ _ _ (fun j hj => ⟨pk_un (by omega), (pk_un (by omega)).trans (pk_un (by omega)), pk_un (by omega), pk_un (by omega)⟩) ⟨(pk_un (by omega)).trans hst.1, (pk_un (by omega)).trans pk_us, (pk_un (by omega)).trans hst.2.2⟩ pk_us ⟨pk_us, pk_us, pk_us⟩ _ _ _ _ _)))⟩⟩
  · have d2 : decide (¬ v = 0) = true := decide_eq_true h0
    rw [d2] at H
    refine br_f h0 ⟨ib, (nm_r (e' := upd ch b (sk_bI true)) (by rw [cb]; rfl) (br_f hh (br_f hh ?_)))⟩
    cases r with
    | false => exact ⟨i40, ib, br_t (er.trans sk_t0) (sk_ystart (by rw [c]; exact h2) rfl hb (nm_r (nI_1 k) (H _ _ _ _ (fun j hj => ⟨pk_un (by omega), (pk_un (by omega)).trans (pk_un (by omega)), pk_un (by omega), pk_un (by omega)⟩) ⟨(pk_un (by omega)).trans hst.1, (pk_un (by omega)).trans pk_us, (pk_un (by omega)).trans hst.2.2⟩ pk_us ⟨pk_us, pk_us, pk_us⟩ _ _ _ _ _)))⟩
    | true => exact ⟨i40, ib, br_f (fun z => sk_t1 (er.symm.trans z)) ⟨ib, br_f (by rw [cb, pk_us]; exact sk_t1) (sk_ystart (by rw [c]; exact h2) rfl hb (nm_r (nI_1 k) (H _ _ _ _ (fun j hj => ⟨pk_un (by omega), (pk_un (by omega)).trans (pk_un (by omega)), pk_un (by omega), pk_un (by omega)⟩) ⟨(pk_un (by omega)).trans hst.1, (pk_un (by omega)).trans pk_us, (pk_un (by omega)).trans hst.2.2⟩ pk_us ⟨pk_us, pk_us, pk_us⟩ _ _ _ _ _)))⟩⟩
theorem sk_ty3b {post : Int32 → SY → Prop} (hN : N ≤ 40) (hM : M ≤ 50) (HE : ∀ e, e < M → sk_node ek ex ey ez ew px py pz od e) (hsc : ∀ p, p < M → (hid p = 0 ↔ sec p = 0)) : sk_ry3b M N ek ex ey ez ew sec sk sx sy (fun n k b vs es lc la pc pa dg st rl ch => ∀ (de tq : Int32) (wk aw fd : sk_F), wY_run_44 post n (nI k) nM nN (nI lc) (nI pc) de tq (nI b) ek ex ey ez ew hid wld sk sx sy sz sw dp oS hS lab vs es la pa wk aw fd dg st rl ch) := by
  intro n k b vs es lc la pc pa dg st rl ch s g r p q v lc' la' hs hk hb hst hkk hg hp h1 hq h2 E hsec h0 hlc H de tq wk aw fd
  have a1 : ¬ (60000 : Int32) ≤ nI k := nI_ge (b := 60000) hk (by decide)
  have a2 : ¬ nI (b + 1) ≤ 0 := nI_nle (by omega) (by omega)
  have c := nI_clamp (show s < 2 ^ 31 by omega)
  have i40 : vp_in (nI s) 40 := vp_in_nI (by omega) (by omega)
  have ib : vp_in (nI b) 32 := vp_in_nI (by omega) (by omega)
  have cb := nI_clamp (show b < 2 ^ 31 by omega)
  have er : rl (nI b).toNatClampNeg = sk_bI r := by rw [cb]; exact hst.2.2
  have ed : dg (nI b).toNatClampNeg = nI s := by rw [cb]; exact hst.1
  subst hg
  have ip : vp_in (nI p) 50 := vp_in_nI (by omega) (by omega)
  have cp := nI_clamp (show p < 2 ^ 31 by omega)
  have ep : sx (nI s).toNatClampNeg = nI p := by rw [c]; exact h1
  have hh : hid p = 0 := (hsc p hp).mpr hsec
  refine br_f a1 (br_f a2 (nm_r (nI_pred b) ⟨ib, nm_r (e' := nI s) ed ⟨ib, nm_r (e' := nI 0) (by rw [cb]; exact hst.2.1) ⟨ib, ib, nm_r (e' := upd st b (nI (0 + 1))) (by rw [cb, hst.2.1, nI_1]) ⟨i40, nm_r (e' := 3) (by rw [c]; exact hkk) ?_⟩⟩⟩⟩))
  refine br_f (by decide) (br_f (by decide) (br_f (by decide) (br_t rfl ⟨ib, nm_r (e' := nI s) ed ⟨i40, by rw [ep]; exact ip, nm_r (e' := hid p) (by rw [ep, cp]) (br_t rfl ⟨i40, sk_ywork ep hM HE hp E (fun de' tq' wk' aw' fd' => ?_)⟩)⟩⟩)))
  unfold wY_choice_51 wY_choice_68 wY_choice_71 wY_choice_85 wY_choice_114 wY_choice_115
  refine br_f h0 ⟨ib, (nm_r (e' := upd ch b (sk_bI true)) (by rw [cb]; rfl) (br_t hh (br_f h0 (sk_yleak hlc (br_t hh ⟨ib, br_f (by rw [cb, pk_us]; exact sk_t1) ?_⟩)))))⟩
  cases r with
  | false => exact ⟨i40, ib, br_t (er.trans sk_t0) (sk_ystart (by rw [c]; exact h2) rfl hb (nm_r (nI_1 k) (H _ _ _ _ (fun j hj => ⟨pk_un (by omega), (pk_un (by omega)).trans (pk_un (by omega)), pk_un (by omega), pk_un (by omega)⟩) ⟨(pk_un (by omega)).trans hst.1, (pk_un (by omega)).trans pk_us, (pk_un (by omega)).trans hst.2.2⟩ pk_us ⟨pk_us, pk_us, pk_us⟩ _ _ _ _ _)))⟩
  | true => exact ⟨i40, ib, br_f (fun z => sk_t1 (er.symm.trans z)) ⟨ib, br_f (by rw [cb, pk_us]; exact sk_t1) (sk_ystart (by rw [c]; exact h2) rfl hb (nm_r (nI_1 k) (H _ _ _ _ (fun j hj => ⟨pk_un (by omega), (pk_un (by omega)).trans (pk_un (by omega)), pk_un (by omega), pk_un (by omega)⟩) ⟨(pk_un (by omega)).trans hst.1, (pk_un (by omega)).trans pk_us, (pk_un (by omega)).trans hst.2.2⟩ pk_us ⟨pk_us, pk_us, pk_us⟩ _ _ _ _ _)))⟩⟩
theorem sk_ty3c {post : Int32 → SY → Prop} (hN : N ≤ 40) (hM : M ≤ 50) (HE : ∀ e, e < M → sk_node ek ex ey ez ew px py pz od e) (hsc : ∀ p, p < M → (hid p = 0 ↔ sec p = 0)) : sk_ry3c M N ek ex ey ez ew sec sk sx sy (fun n k b vs es lc la pc pa dg st rl ch => ∀ (de tq : Int32) (wk aw fd : sk_F), wY_run_44 post n (nI k) nM nN (nI lc) (nI pc) de tq (nI b) ek ex ey ez ew hid wld sk sx sy sz sw dp oS hS lab vs es la pa wk aw fd dg st rl ch) := by
  intro n k b vs es lc la pc pa dg st rl ch s g r p q v lc' la' hs hk hb hst hkk hg hp h1 hq h2 E hsec h0 hlc H de tq wk aw fd
  have a1 : ¬ (60000 : Int32) ≤ nI k := nI_ge (b := 60000) hk (by decide)
  have a2 : ¬ nI (b + 1) ≤ 0 := nI_nle (by omega) (by omega)
  have c := nI_clamp (show s < 2 ^ 31 by omega)
  have i40 : vp_in (nI s) 40 := vp_in_nI (by omega) (by omega)
  have ib : vp_in (nI b) 32 := vp_in_nI (by omega) (by omega)
  have cb := nI_clamp (show b < 2 ^ 31 by omega)
  have ed : dg (nI b).toNatClampNeg = nI s := by rw [cb]; exact hst.1
  subst hg
  have ip : vp_in (nI p) 50 := vp_in_nI (by omega) (by omega)
  have cp := nI_clamp (show p < 2 ^ 31 by omega)
  have ep : sx (nI s).toNatClampNeg = nI p := by rw [c]; exact h1
  have hh : hid p = 0 := (hsc p hp).mpr hsec
  refine br_f a1 (br_f a2 (nm_r (nI_pred b) ⟨ib, nm_r (e' := nI s) ed ⟨ib, nm_r (e' := nI 0) (by rw [cb]; exact hst.2.1) ⟨ib, ib, nm_r (e' := upd st b (nI (0 + 1))) (by rw [cb, hst.2.1, nI_1]) ⟨i40, nm_r (e' := 3) (by rw [c]; exact hkk) ?_⟩⟩⟩⟩))
  refine br_f (by decide) (br_f (by decide) (br_f (by decide) (br_t rfl ⟨ib, nm_r (e' := nI s) ed ⟨i40, by rw [ep]; exact ip, nm_r (e' := hid p) (by rw [ep, cp]) (br_t rfl ⟨i40, sk_ywork ep hM HE hp E (fun de' tq' wk' aw' fd' => ?_)⟩)⟩⟩)))
  unfold wY_choice_51 wY_choice_68 wY_choice_71 wY_choice_85 wY_choice_114 wY_choice_115
  refine br_t h0 ⟨ib, (nm_r (e' := upd ch b (sk_bI false)) (by rw [cb]; rfl) (br_t hh (br_t h0 (sk_yleak hlc (br_t hh ⟨ib, br_t (by rw [cb]; exact pk_us) ?_⟩)))))⟩
  exact nm_r (nI_1 k) (H _ _ _ _ (fun j hj => ⟨rfl, pk_un (by omega), rfl, pk_un (by omega)⟩) ⟨hst.1, pk_us, hst.2.2⟩ pk_us _ _ _ _ _)
theorem sk_ty3d {post : Int32 → SY → Prop} (hN : N ≤ 40) (hM : M ≤ 50) (HE : ∀ e, e < M → sk_node ek ex ey ez ew px py pz od e) (hsc : ∀ p, p < M → (hid p = 0 ↔ sec p = 0)) : sk_ry3d M N sec sk sx sz (fun n k b vs es lc la pc pa dg st rl ch => ∀ (de tq : Int32) (wk aw fd : sk_F), wY_run_44 post n (nI k) nM nN (nI lc) (nI pc) de tq (nI b) ek ex ey ez ew hid wld sk sx sy sz sw dp oS hS lab vs es la pa wk aw fd dg st rl ch) := by
  intro n k b vs es lc la pc pa dg st rl ch s g r p z tk hs hk hb hst hkk hg hp h1 hsec hzN hz hch H de tq wk aw fd
  have a1 : ¬ (60000 : Int32) ≤ nI k := nI_ge (b := 60000) hk (by decide)
  have a2 : ¬ nI (b + 1) ≤ 0 := nI_nle (by omega) (by omega)
  have c := nI_clamp (show s < 2 ^ 31 by omega)
  have i40 : vp_in (nI s) 40 := vp_in_nI (by omega) (by omega)
  have ib : vp_in (nI b) 32 := vp_in_nI (by omega) (by omega)
  have cb := nI_clamp (show b < 2 ^ 31 by omega)
  have er : rl (nI b).toNatClampNeg = sk_bI r := by rw [cb]; exact hst.2.2
  have ed : dg (nI b).toNatClampNeg = nI s := by rw [cb]; exact hst.1
  subst hg
  have ip : vp_in (nI p) 50 := vp_in_nI (by omega) (by omega)
  have cp := nI_clamp (show p < 2 ^ 31 by omega)
  have ep : sx (nI s).toNatClampNeg = nI p := by rw [c]; exact h1
  have hh : ¬ hid p = 0 := fun z => hsec ((hsc p hp).mp z)
  have ec : ch (nI b).toNatClampNeg = sk_bI tk := by rw [cb]; exact hch
  have hz0 : ¬ sz (nI s).toNatClampNeg < 0 := by rw [c, hz]; exact nI_pos (by omega)
  refine br_f a1 (br_f a2 (nm_r (nI_pred b) ⟨ib, nm_r (e' := nI s) ed ⟨ib, nm_r (e' := nI 1) (by rw [cb]; exact hst.2.1) ⟨ib, ib, nm_r (e' := upd st b (nI (1 + 1))) (by rw [cb, hst.2.1, nI_1]) ⟨i40, nm_r (e' := 3) (by rw [c]; exact hkk) ?_⟩⟩⟩⟩))
  refine br_f (by decide) (br_f (by decide) (br_f (by decide) (br_t rfl ⟨ib, nm_r (e' := nI s) ed ⟨i40, by rw [ep]; exact ip, nm_r (e' := hid p) (by rw [ep, cp]) (br_f (by decide) (br_t rfl ⟨i40, br_f hz0 (br_f hh ?_)⟩))⟩⟩)))
  unfold wY_choice_149 wY_choice_178 wY_choice_179
  cases r with
  | false => exact ⟨i40, ib, br_t (er.trans sk_t0) (sk_ystart (by rw [c]; exact hz) rfl hb (nm_r (nI_1 k) (H _ _ _ _ (fun j hj => ⟨pk_un (by omega), (pk_un (by omega)).trans (pk_un (by omega)), pk_un (by omega), rfl⟩) ⟨(pk_un (by omega)).trans hst.1, (pk_un (by omega)).trans pk_us, (pk_un (by omega)).trans hst.2.2⟩ ⟨pk_us, pk_us, pk_us⟩ _ _ _ _ _)))⟩
  | true =>
    cases tk with
    | false => exact ⟨i40, ib, br_f (fun z => sk_t1 (er.symm.trans z)) ⟨ib, br_t (ec.trans sk_t0) (sk_ystart (by rw [c]; exact hz) rfl hb (nm_r (nI_1 k) (H _ _ _ _ (fun j hj => ⟨pk_un (by omega), (pk_un (by omega)).trans (pk_un (by omega)), pk_un (by omega), rfl⟩) ⟨(pk_un (by omega)).trans hst.1, (pk_un (by omega)).trans pk_us, (pk_un (by omega)).trans hst.2.2⟩ ⟨pk_us, pk_us, pk_us⟩ _ _ _ _ _)))⟩⟩
    | true => exact ⟨i40, ib, br_f (fun z => sk_t1 (er.symm.trans z)) ⟨ib, br_f (fun z => sk_t1 (ec.symm.trans z)) (sk_ystart (by rw [c]; exact hz) rfl hb (nm_r (nI_1 k) (H _ _ _ _ (fun j hj => ⟨pk_un (by omega), (pk_un (by omega)).trans (pk_un (by omega)), pk_un (by omega), rfl⟩) ⟨(pk_un (by omega)).trans hst.1, (pk_un (by omega)).trans pk_us, (pk_un (by omega)).trans hst.2.2⟩ ⟨pk_us, pk_us, pk_us⟩ _ _ _ _ _)))⟩⟩
theorem sk_ty3e {post : Int32 → SY → Prop} (hN : N ≤ 40) (hM : M ≤ 50) (HE : ∀ e, e < M → sk_node ek ex ey ez ew px py pz od e) (hsc : ∀ p, p < M → (hid p = 0 ↔ sec p = 0)) : sk_ry3e M N sec sk sx sz (fun n k b vs es lc la pc pa dg st rl ch => ∀ (de tq : Int32) (wk aw fd : sk_F), wY_run_44 post n (nI k) nM nN (nI lc) (nI pc) de tq (nI b) ek ex ey ez ew hid wld sk sx sy sz sw dp oS hS lab vs es la pa wk aw fd dg st rl ch) := by
  intro n k b vs es lc la pc pa dg st rl ch s g r p z hs hk hb hst hkk hg hp h1 hsec hzN hz hch H de tq wk aw fd
  have a1 : ¬ (60000 : Int32) ≤ nI k := nI_ge (b := 60000) hk (by decide)
  have a2 : ¬ nI (b + 1) ≤ 0 := nI_nle (by omega) (by omega)
  have c := nI_clamp (show s < 2 ^ 31 by omega)
  have i40 : vp_in (nI s) 40 := vp_in_nI (by omega) (by omega)
  have ib : vp_in (nI b) 32 := vp_in_nI (by omega) (by omega)
  have cb := nI_clamp (show b < 2 ^ 31 by omega)
  have er : rl (nI b).toNatClampNeg = sk_bI r := by rw [cb]; exact hst.2.2
  have ed : dg (nI b).toNatClampNeg = nI s := by rw [cb]; exact hst.1
  subst hg
  have ip : vp_in (nI p) 50 := vp_in_nI (by omega) (by omega)
  have cp := nI_clamp (show p < 2 ^ 31 by omega)
  have ep : sx (nI s).toNatClampNeg = nI p := by rw [c]; exact h1
  have hh : hid p = 0 := (hsc p hp).mpr hsec
  have ec : ch (nI b).toNatClampNeg = sk_bI false := by rw [cb]; exact hch
  have hz0 : ¬ sz (nI s).toNatClampNeg < 0 := by rw [c, hz]; exact nI_pos (by omega)
  refine br_f a1 (br_f a2 (nm_r (nI_pred b) ⟨ib, nm_r (e' := nI s) ed ⟨ib, nm_r (e' := nI 1) (by rw [cb]; exact hst.2.1) ⟨ib, ib, nm_r (e' := upd st b (nI (1 + 1))) (by rw [cb, hst.2.1, nI_1]) ⟨i40, nm_r (e' := 3) (by rw [c]; exact hkk) ?_⟩⟩⟩⟩))
  refine br_f (by decide) (br_f (by decide) (br_f (by decide) (br_t rfl ⟨ib, nm_r (e' := nI s) ed ⟨i40, by rw [ep]; exact ip, nm_r (e' := hid p) (by rw [ep, cp]) (br_f (by decide) (br_t rfl ⟨i40, br_f hz0 (br_t hh ⟨ib, br_t (ec.trans sk_t0) ?_⟩)⟩))⟩⟩)))
  unfold wY_choice_149 wY_choice_178 wY_choice_179
  cases r with
  | false => exact ⟨i40, ib, br_t (er.trans sk_t0) (sk_ystart (by rw [c]; exact hz) rfl hb (nm_r (nI_1 k) (H _ _ _ _ (fun j hj => ⟨pk_un (by omega), (pk_un (by omega)).trans (pk_un (by omega)), pk_un (by omega), rfl⟩) ⟨(pk_un (by omega)).trans hst.1, (pk_un (by omega)).trans pk_us, (pk_un (by omega)).trans hst.2.2⟩ ⟨pk_us, pk_us, pk_us⟩ _ _ _ _ _)))⟩
  | true => exact ⟨i40, ib, br_f (fun z => sk_t1 (er.symm.trans z)) ⟨ib, br_t (ec.trans sk_t0) (sk_ystart (by rw [c]; exact hz) rfl hb (nm_r (nI_1 k) (H _ _ _ _ (fun j hj => ⟨pk_un (by omega), (pk_un (by omega)).trans (pk_un (by omega)), pk_un (by omega), rfl⟩) ⟨(pk_un (by omega)).trans hst.1, (pk_un (by omega)).trans pk_us, (pk_un (by omega)).trans hst.2.2⟩ ⟨pk_us, pk_us, pk_us⟩ _ _ _ _ _)))⟩⟩
theorem sk_ty3f {post : Int32 → SY → Prop} (hN : N ≤ 40) (hM : M ≤ 50) (HE : ∀ e, e < M → sk_node ek ex ey ez ew px py pz od e) (hsc : ∀ p, p < M → (hid p = 0 ↔ sec p = 0)) : sk_ry3f M N sec sk sx sz (fun n k b vs es lc la pc pa dg st rl ch => ∀ (de tq : Int32) (wk aw fd : sk_F), wY_run_44 post n (nI k) nM nN (nI lc) (nI pc) de tq (nI b) ek ex ey ez ew hid wld sk sx sy sz sw dp oS hS lab vs es la pa wk aw fd dg st rl ch) := by
  intro n k b vs es lc la pc pa dg st rl ch s g r p hs hk hb hst hkk hg hp h1 hor H de tq wk aw fd
  have a1 : ¬ (60000 : Int32) ≤ nI k := nI_ge (b := 60000) hk (by decide)
  have a2 : ¬ nI (b + 1) ≤ 0 := nI_nle (by omega) (by omega)
  have c := nI_clamp (show s < 2 ^ 31 by omega)
  have i40 : vp_in (nI s) 40 := vp_in_nI (by omega) (by omega)
  have ib : vp_in (nI b) 32 := vp_in_nI (by omega) (by omega)
  have cb := nI_clamp (show b < 2 ^ 31 by omega)
  have er : rl (nI b).toNatClampNeg = sk_bI r := by rw [cb]; exact hst.2.2
  have ed : dg (nI b).toNatClampNeg = nI s := by rw [cb]; exact hst.1
  subst hg
  have ip : vp_in (nI p) 50 := vp_in_nI (by omega) (by omega)
  have cp := nI_clamp (show p < 2 ^ 31 by omega)
  have ep : sx (nI s).toNatClampNeg = nI p := by rw [c]; exact h1
  refine br_f a1 (br_f a2 (nm_r (nI_pred b) ⟨ib, nm_r (e' := nI s) ed ⟨ib, nm_r (e' := nI 1) (by rw [cb]; exact hst.2.1) ⟨ib, ib, nm_r (e' := upd st b (nI (1 + 1))) (by rw [cb, hst.2.1, nI_1]) ⟨i40, nm_r (e' := 3) (by rw [c]; exact hkk) ?_⟩⟩⟩⟩))
  refine br_f (by decide) (br_f (by decide) (br_f (by decide) (br_t rfl ⟨ib, nm_r (e' := nI s) ed ⟨i40, by rw [ep]; exact ip, nm_r (e' := hid p) (by rw [ep, cp]) (br_f (by decide) (br_t rfl ⟨i40, ?_⟩))⟩⟩)))
  rcases hor with hz | ⟨z, hzN, hz, hsec, hch⟩
  · exact br_t (by rw [c, hz]; decide) (nm_r (nI_pred b) (nm_r (nI_1 k) (H _ _ _ _ (fun j hj => ⟨rfl, pk_un (by omega), rfl, rfl⟩) _ _ _ _ _)))
  · have hh : hid p = 0 := (hsc p hp).mpr hsec
    have ec : ch (nI b).toNatClampNeg = sk_bI true := by rw [cb]; exact hch
    have hz0 : ¬ sz (nI s).toNatClampNeg < 0 := by rw [c, hz]; exact nI_pos (by omega)
    exact br_f hz0 (br_t hh ⟨ib, br_f (fun z => sk_t1 (ec.symm.trans z)) (nm_r (nI_pred b) (nm_r (nI_1 k) (H _ _ _ _ (fun j hj => ⟨rfl, pk_un (by omega), rfl, rfl⟩) _ _ _ _ _)))⟩)
theorem sk_ty3g {post : Int32 → SY → Prop} (hN : N ≤ 40) (hM : M ≤ 50) (HE : ∀ e, e < M → sk_node ek ex ey ez ew px py pz od e) (hsc : ∀ p, p < M → (hid p = 0 ↔ sec p = 0)) : sk_ry3g M N sk sx (fun n k b vs es lc la pc pa dg st rl ch => ∀ (de tq : Int32) (wk aw fd : sk_F), wY_run_44 post n (nI k) nM nN (nI lc) (nI pc) de tq (nI b) ek ex ey ez ew hid wld sk sx sy sz sw dp oS hS lab vs es la pa wk aw fd dg st rl ch) := by
  intro n k b vs es lc la pc pa dg st rl ch s g r p hs hk hb hst hkk hg hp h1 H de tq wk aw fd
  have a1 : ¬ (60000 : Int32) ≤ nI k := nI_ge (b := 60000) hk (by decide)
  have a2 : ¬ nI (b + 1) ≤ 0 := nI_nle (by omega) (by omega)
  have c := nI_clamp (show s < 2 ^ 31 by omega)
  have i40 : vp_in (nI s) 40 := vp_in_nI (by omega) (by omega)
  have ib : vp_in (nI b) 32 := vp_in_nI (by omega) (by omega)
  have cb := nI_clamp (show b < 2 ^ 31 by omega)
  have er : rl (nI b).toNatClampNeg = sk_bI r := by rw [cb]; exact hst.2.2
  have ed : dg (nI b).toNatClampNeg = nI s := by rw [cb]; exact hst.1
  subst hg
  have ip : vp_in (nI p) 50 := vp_in_nI (by omega) (by omega)
  have cp := nI_clamp (show p < 2 ^ 31 by omega)
  have ep : sx (nI s).toNatClampNeg = nI p := by rw [c]; exact h1
  refine br_f a1 (br_f a2 (nm_r (nI_pred b) ⟨ib, nm_r (e' := nI s) ed ⟨ib, nm_r (e' := nI 2) (by rw [cb]; exact hst.2.1) ⟨ib, ib, nm_r (e' := upd st b (nI (2 + 1))) (by rw [cb, hst.2.1, nI_1]) ⟨i40, nm_r (e' := 3) (by rw [c]; exact hkk) ?_⟩⟩⟩⟩))
  exact br_f (by decide) (br_f (by decide) (br_f (by decide) (br_t rfl ⟨ib, nm_r (e' := nI s) ed ⟨i40, by rw [ep]; exact ip, nm_r (e' := hid p) (by rw [ep, cp]) (br_f (by decide) (br_f (by decide) (nm_r (nI_pred b) (nm_r (nI_1 k) (H _ _ _ _ (fun j hj => ⟨rfl, pk_un (by omega), rfl, rfl⟩) _ _ _ _ _)))))⟩⟩)))
theorem sk_ty4a {post : Int32 → SY → Prop} (hN : N ≤ 40) (hM : M ≤ 50) (HE : ∀ e, e < M → sk_node ek ex ey ez ew px py pz od e) (hsc : ∀ p, p < M → (hid p = 0 ↔ sec p = 0)) : sk_ry4a N sk sx sy (fun n k b vs es lc la pc pa dg st rl ch => ∀ (de tq : Int32) (wk aw fd : sk_F), wY_run_44 post n (nI k) nM nN (nI lc) (nI pc) de tq (nI b) ek ex ey ez ew hid wld sk sx sy sz sw dp oS hS lab vs es la pa wk aw fd dg st rl ch) := by
  intro n k b vs es lc la pc pa dg st rl ch s g r x q hs hk hb hst hkk hx h1 hq h2 hg H de tq wk aw fd
  have a1 : ¬ (60000 : Int32) ≤ nI k := nI_ge (b := 60000) hk (by decide)
  have a2 : ¬ nI (b + 1) ≤ 0 := nI_nle (by omega) (by omega)
  have c := nI_clamp (show s < 2 ^ 31 by omega)
  have i40 : vp_in (nI s) 40 := vp_in_nI (by omega) (by omega)
  have ib : vp_in (nI b) 32 := vp_in_nI (by omega) (by omega)
  have cb := nI_clamp (show b < 2 ^ 31 by omega)
  have er : rl (nI b).toNatClampNeg = sk_bI r := by rw [cb]; exact hst.2.2
  have eb : vp_nar .boolean (rl (nI b).toNatClampNeg) = sk_bI r := by rw [er]; exact sk_nb r
  have ed : dg (nI b).toNatClampNeg = nI s := by rw [cb]; exact hst.1
  have ek4 : sk (nI s).toNatClampNeg = 4 := by rw [c]; exact hkk
  refine br_f a1 (br_f a2 (nm_r (nI_pred b) ⟨ib, nm_r (e' := nI s) ed ⟨ib, nm_r (e' := nI g) (by rw [cb]; exact hst.2.1) ⟨ib, ib, nm_r (e' := upd st b (nI (g + 1))) (by rw [cb, hst.2.1, nI_1]) ⟨i40, nm_r (e' := 4) (by rw [c]; exact hkk) ?_⟩⟩⟩⟩))
  unfold wpY_repeat wY_repeat_29 wY_repeat_37 wY_repeat_77 wY_repeat_90 wY_repeat_92
  exact br_f (by decide) (br_f (by decide) (br_f (by decide) (br_f (by decide) ⟨ib, nm_r (e' := nI s) ed ⟨i40, br_t ek4 ⟨i40, br_f (by rw [c, h1]; exact nI_ge hg (by omega)) (br_f (by decide) ⟨i40, br_f (by rw [ek4]; decide) (br_f (by decide) ⟨i40, ib, sk_ystart (by rw [c]; exact h2) eb hb (nm_r (nI_1 k) (H _ _ _ _ (fun j hj => ⟨pk_un (by omega), (pk_un (by omega)).trans (pk_un (by omega)), pk_un (by omega), rfl⟩) ⟨(pk_un (by omega)).trans hst.1, (pk_un (by omega)).trans pk_us, (pk_un (by omega)).trans hst.2.2⟩ ⟨pk_us, pk_us, pk_us⟩ _ _ _ _ _))⟩)⟩)⟩⟩⟩)))
theorem sk_ty4b {post : Int32 → SY → Prop} (hN : N ≤ 40) (hM : M ≤ 50) (HE : ∀ e, e < M → sk_node ek ex ey ez ew px py pz od e) (hsc : ∀ p, p < M → (hid p = 0 ↔ sec p = 0)) : sk_ry4b N sk sx (fun n k b vs es lc la pc pa dg st rl ch => ∀ (de tq : Int32) (wk aw fd : sk_F), wY_run_44 post n (nI k) nM nN (nI lc) (nI pc) de tq (nI b) ek ex ey ez ew hid wld sk sx sy sz sw dp oS hS lab vs es la pa wk aw fd dg st rl ch) := by
  intro n k b vs es lc la pc pa dg st rl ch s g r x hs hk hb hst hkk hx h1 hg H de tq wk aw fd
  have a1 : ¬ (60000 : Int32) ≤ nI k := nI_ge (b := 60000) hk (by decide)
  have a2 : ¬ nI (b + 1) ≤ 0 := nI_nle (by omega) (by omega)
  have c := nI_clamp (show s < 2 ^ 31 by omega)
  have i40 : vp_in (nI s) 40 := vp_in_nI (by omega) (by omega)
  have ib : vp_in (nI b) 32 := vp_in_nI (by omega) (by omega)
  have cb := nI_clamp (show b < 2 ^ 31 by omega)
  have er : rl (nI b).toNatClampNeg = sk_bI r := by rw [cb]; exact hst.2.2
  have eb : vp_nar .boolean (rl (nI b).toNatClampNeg) = sk_bI r := by rw [er]; exact sk_nb r
  have ed : dg (nI b).toNatClampNeg = nI s := by rw [cb]; exact hst.1
  have ek4 : sk (nI s).toNatClampNeg = 4 := by rw [c]; exact hkk
  refine br_f a1 (br_f a2 (nm_r (nI_pred b) ⟨ib, nm_r (e' := nI s) ed ⟨ib, nm_r (e' := nI g) (by rw [cb]; exact hst.2.1) ⟨ib, ib, nm_r (e' := upd st b (nI (g + 1))) (by rw [cb, hst.2.1, nI_1]) ⟨i40, nm_r (e' := 4) (by rw [c]; exact hkk) ?_⟩⟩⟩⟩))
  unfold wpY_repeat wY_repeat_29 wY_repeat_37 wY_repeat_77 wY_repeat_90 wY_repeat_92
  exact br_f (by decide) (br_f (by decide) (br_f (by decide) (br_f (by decide) ⟨ib, nm_r (e' := nI s) ed ⟨i40, br_t ek4 ⟨i40, br_t (by rw [c, h1, hg]; exact nI_le (Nat.le_refl _) (by omega)) (br_t rfl (br_t rfl (nm_r (nI_pred b) (nm_r (nI_1 k) (H _ _ _ _ (fun j hj => ⟨rfl, pk_un (by omega), rfl, rfl⟩) _ _ _ _ _)))))⟩⟩⟩)))
theorem sk_ty5a {post : Int32 → SY → Prop} (hN : N ≤ 40) (hM : M ≤ 50) (HE : ∀ e, e < M → sk_node ek ex ey ez ew px py pz od e) (hsc : ∀ p, p < M → (hid p = 0 ↔ sec p = 0)) : sk_ry5a M N ek ex ey ez ew sk sx sy (fun n k b vs es lc la pc pa dg st rl ch => ∀ (de tq : Int32) (wk aw fd : sk_F), wY_run_44 post n (nI k) nM nN (nI lc) (nI pc) de tq (nI b) ek ex ey ez ew hid wld sk sx sy sz sw dp oS hS lab vs es la pa wk aw fd dg st rl ch) := by
  intro n k b vs es lc la pc pa dg st rl ch s g r p q v lc' la' hs hk hb hst hkk hp h1 hg E hlc hq h2 h0 H de tq wk aw fd
  have a1 : ¬ (60000 : Int32) ≤ nI k := nI_ge (b := 60000) hk (by decide)
  have a2 : ¬ nI (b + 1) ≤ 0 := nI_nle (by omega) (by omega)
  have c := nI_clamp (show s < 2 ^ 31 by omega)
  have i40 : vp_in (nI s) 40 := vp_in_nI (by omega) (by omega)
  have ib : vp_in (nI b) 32 := vp_in_nI (by omega) (by omega)
  have cb := nI_clamp (show b < 2 ^ 31 by omega)
  have er : rl (nI b).toNatClampNeg = sk_bI r := by rw [cb]; exact hst.2.2
  have eb : vp_nar .boolean (rl (nI b).toNatClampNeg) = sk_bI r := by rw [er]; exact sk_nb r
  have ed : dg (nI b).toNatClampNeg = nI s := by rw [cb]; exact hst.1
  have ek4 : sk (nI s).toNatClampNeg = 5 := by rw [c]; exact hkk
  refine br_f a1 (br_f a2 (nm_r (nI_pred b) ⟨ib, nm_r (e' := nI s) ed ⟨ib, nm_r (e' := nI g) (by rw [cb]; exact hst.2.1) ⟨ib, ib, nm_r (e' := upd st b (nI (g + 1))) (by rw [cb, hst.2.1, nI_1]) ⟨i40, nm_r (e' := 5) (by rw [c]; exact hkk) ?_⟩⟩⟩⟩))
  unfold wpY_repeat wY_repeat_29 wY_repeat_37 wY_repeat_77 wY_repeat_90 wY_repeat_92
  exact br_f (by decide) (br_f (by decide) (br_f (by decide) (br_f (by decide) ⟨ib, nm_r (e' := nI s) ed ⟨i40, br_f (by rw [ek4]; decide) (br_f (nI_ge (b := 6) hg (by decide)) (br_f (by decide) ⟨i40, br_t ek4 ⟨i40, sk_ywork (by rw [c]; exact h1) hM HE hp E (fun de' tq' wk' aw' fd' => br_f h0 (sk_yleak hlc (br_f h0 (br_f (by decide) ⟨i40, ib, sk_ystart (by rw [c]; exact h2) eb hb (nm_r (nI_1 k) (H _ _ _ _ (fun j hj => ⟨pk_un (by omega), (pk_un (by omega)).trans (pk_un (by omega)), pk_un (by omega), rfl⟩) ⟨(pk_un (by omega)).trans hst.1, (pk_un (by omega)).trans pk_us, (pk_un (by omega)).trans hst.2.2⟩ ⟨pk_us, pk_us, pk_us⟩ _ _ _ _ _))⟩))))⟩⟩))⟩⟩)))
theorem sk_ty5b {post : Int32 → SY → Prop} (hN : N ≤ 40) (hM : M ≤ 50) (HE : ∀ e, e < M → sk_node ek ex ey ez ew px py pz od e) (hsc : ∀ p, p < M → (hid p = 0 ↔ sec p = 0)) : sk_ry5b M N ek ex ey ez ew sk sx (fun n k b vs es lc la pc pa dg st rl ch => ∀ (de tq : Int32) (wk aw fd : sk_F), wY_run_44 post n (nI k) nM nN (nI lc) (nI pc) de tq (nI b) ek ex ey ez ew hid wld sk sx sy sz sw dp oS hS lab vs es la pa wk aw fd dg st rl ch) := by
  intro n k b vs es lc la pc pa dg st rl ch s g r p v lc' la' hs hk hb hst hkk hp h1 hg E hlc h0 H de tq wk aw fd
  have a1 : ¬ (60000 : Int32) ≤ nI k := nI_ge (b := 60000) hk (by decide)
  have a2 : ¬ nI (b + 1) ≤ 0 := nI_nle (by omega) (by omega)
  have c := nI_clamp (show s < 2 ^ 31 by omega)
  have i40 : vp_in (nI s) 40 := vp_in_nI (by omega) (by omega)
  have ib : vp_in (nI b) 32 := vp_in_nI (by omega) (by omega)
  have cb := nI_clamp (show b < 2 ^ 31 by omega)
  have er : rl (nI b).toNatClampNeg = sk_bI r := by rw [cb]; exact hst.2.2
  have eb : vp_nar .boolean (rl (nI b).toNatClampNeg) = sk_bI r := by rw [er]; exact sk_nb r
  have ed : dg (nI b).toNatClampNeg = nI s := by rw [cb]; exact hst.1
  have ek4 : sk (nI s).toNatClampNeg = 5 := by rw [c]; exact hkk
  refine br_f a1 (br_f a2 (nm_r (nI_pred b) ⟨ib, nm_r (e' := nI s) ed ⟨ib, nm_r (e' := nI g) (by rw [cb]; exact hst.2.1) ⟨ib, ib, nm_r (e' := upd st b (nI (g + 1))) (by rw [cb, hst.2.1, nI_1]) ⟨i40, nm_r (e' := 5) (by rw [c]; exact hkk) ?_⟩⟩⟩⟩))
  unfold wpY_repeat wY_repeat_29 wY_repeat_37 wY_repeat_77 wY_repeat_90 wY_repeat_92
  exact br_f (by decide) (br_f (by decide) (br_f (by decide) (br_f (by decide) ⟨ib, nm_r (e' := nI s) ed ⟨i40, br_f (by rw [ek4]; decide) (br_f (nI_ge (b := 6) hg (by decide)) (br_f (by decide) ⟨i40, br_t ek4 ⟨i40, sk_ywork (by rw [c]; exact h1) hM HE hp E (fun de' tq' wk' aw' fd' => br_t h0 (sk_yleak hlc (br_t h0 (br_t rfl (nm_r (nI_pred b) (nm_r (nI_1 k) (H _ _ _ _ (fun j hj => ⟨rfl, pk_un (by omega), rfl, rfl⟩) _ _ _ _ _)))))))⟩⟩))⟩⟩)))
theorem sk_ty5c {post : Int32 → SY → Prop} (hN : N ≤ 40) (hM : M ≤ 50) (HE : ∀ e, e < M → sk_node ek ex ey ez ew px py pz od e) (hsc : ∀ p, p < M → (hid p = 0 ↔ sec p = 0)) : sk_ry5c N sk (fun n k b vs es lc la pc pa dg st rl ch => ∀ (de tq : Int32) (wk aw fd : sk_F), wY_run_44 post n (nI k) nM nN (nI lc) (nI pc) de tq (nI b) ek ex ey ez ew hid wld sk sx sy sz sw dp oS hS lab vs es la pa wk aw fd dg st rl ch) := by
  intro n k b vs es lc la pc pa dg st rl ch s g r hs hk hb hst hkk hg H de tq wk aw fd
  have a1 : ¬ (60000 : Int32) ≤ nI k := nI_ge (b := 60000) hk (by decide)
  have a2 : ¬ nI (b + 1) ≤ 0 := nI_nle (by omega) (by omega)
  have c := nI_clamp (show s < 2 ^ 31 by omega)
  have i40 : vp_in (nI s) 40 := vp_in_nI (by omega) (by omega)
  have ib : vp_in (nI b) 32 := vp_in_nI (by omega) (by omega)
  have cb := nI_clamp (show b < 2 ^ 31 by omega)
  have er : rl (nI b).toNatClampNeg = sk_bI r := by rw [cb]; exact hst.2.2
  have eb : vp_nar .boolean (rl (nI b).toNatClampNeg) = sk_bI r := by rw [er]; exact sk_nb r
  have ed : dg (nI b).toNatClampNeg = nI s := by rw [cb]; exact hst.1
  subst hg
  have ek4 : sk (nI s).toNatClampNeg = 5 := by rw [c]; exact hkk
  refine br_f a1 (br_f a2 (nm_r (nI_pred b) ⟨ib, nm_r (e' := nI s) ed ⟨ib, nm_r (e' := nI 6) (by rw [cb]; exact hst.2.1) ⟨ib, ib, nm_r (e' := upd st b (nI (6 + 1))) (by rw [cb, hst.2.1, nI_1]) ⟨i40, nm_r (e' := 5) (by rw [c]; exact hkk) ?_⟩⟩⟩⟩))
  unfold wpY_repeat wY_repeat_29 wY_repeat_37 wY_repeat_77 wY_repeat_90 wY_repeat_92
  exact br_f (by decide) (br_f (by decide) (br_f (by decide) (br_f (by decide) ⟨ib, nm_r (e' := nI s) ed ⟨i40, br_f (by rw [ek4]; decide) (br_t (by decide) (br_t rfl (br_t rfl (nm_r (nI_pred b) (nm_r (nI_1 k) (H _ _ _ _ (fun j hj => ⟨rfl, pk_un (by omega), rfl, rfl⟩) _ _ _ _ _))))))⟩⟩)))
theorem sk_ty {post : Int32 → SY → Prop} (hN : N ≤ 40) (hM : M ≤ 50) (HE : ∀ e, e < M → sk_node ek ex ey ez ew px py pz od e) (hsc : ∀ p, p < M → (hid p = 0 ↔ sec p = 0)) : sk_RYs M N ek ex ey ez ew sec sk sx sy sz (fun n k b vs es lc la pc pa dg st rl ch => ∀ (de tq : Int32) (wk aw fd : sk_F), wY_run_44 post n (nI k) nM nN (nI lc) (nI pc) de tq (nI b) ek ex ey ez ew hid wld sk sx sy sz sw dp oS hS lab vs es la pa wk aw fd dg st rl ch) :=
  ⟨sk_ty0 hN hM HE hsc, sk_ty1 hN hM HE hsc, sk_ty2a hN hM HE hsc, sk_ty2b hN hM HE hsc, sk_ty2c hN hM HE hsc, sk_ty3a hN hM HE hsc, sk_ty3b hN hM HE hsc, sk_ty3c hN hM HE hsc, sk_ty3d hN hM HE hsc, sk_ty3e hN hM HE hsc, sk_ty3f hN hM HE hsc, sk_ty3g hN hM HE hsc, sk_ty4a hN hM HE hsc, sk_ty4b hN hM HE hsc, sk_ty5a hN hM HE hsc, sk_ty5b hN hM HE hsc, sk_ty5c hN hM HE hsc, sk_ty6 hN hM HE hsc⟩
end
end
section
/-! 10: X judges an expression and a statement -/
section
variable {nM nN pl lc pc : Int32} {M N : Nat} {vs es lab ek ex ey ez px py pz ew od sec rdo sk sx sy sz sw dp so sh la pa vl ps pt pr : sk_F}
theorem sk_pt_le {x : Int32} {a b : Nat} (h : sk_pt x a) (hab : a ≤ b) : sk_pt x b := by
  rcases h with h | ⟨p, hp, h⟩
  · exact Or.inl h
  · exact Or.inr ⟨p, by omega, h⟩
theorem sk_pt_in {x : Int32} {a : Nat} (h : sk_pt x a) (ha : a ≤ 50) (hx : ¬ x = -1) : vp_in x a := by
  rcases h with h | ⟨p, hp, h⟩
  · exact absurd h hx
  · rw [h]; exact vp_in_nI hp (by omega)
theorem sk_xis {post : Int32 → Prop} {x : Int32} (hx : sk_pt x 50) (H1 : sk_ps sec x → post 1) (H0 : ¬ sk_ps sec x → post 0) : wpX_isSecretPart post (nM, nN, lc, pc, pl, vs, es, lab, ek, ex, px, py, pz, ew, od, sec, rdo, sk, sx, sy, sz, sw, dp, so, sh, la, pa, vl, ps, pt, pr) x := by
  by_cases h : x = -1
  · exact br_t h (H0 (fun z => z.1 h))
  · exact br_f h ⟨sk_pt_in hx (by omega) h, br_c (fun z => H0 (fun w => w.2 z)) (fun z => H1 ⟨h, z⟩)⟩
theorem sk_xro {post : Int32 → Prop} {x : Int32} (hx : sk_pt x 50) (H1 : sk_pr rdo x → post 1) (H0 : ¬ sk_pr rdo x → post 0) : wpX_partReadsOpenly post (nM, nN, lc, pc, pl, vs, es, lab, ek, ex, px, py, pz, ew, od, sec, rdo, sk, sx, sy, sz, sw, dp, so, sh, la, pa, vl, ps, pt, pr) x := by
  by_cases h : x = -1
  · exact br_t h (H1 (Or.inl h))
  · exact br_f h ⟨sk_pt_in hx (by omega) h, br_c (fun z => H0 (fun w => w.elim h (fun w => w z))) (fun z => H1 (Or.inr z))⟩
theorem sk_xj118 {post : SX → Prop} {e : Nat} (he : e < 50) (hp : sk_pt (px e) 50 ∧ sk_pt (py e) 50 ∧ sk_pt (pz e) 50)
    (H : ∀ f : Int32, (¬ f = 0 ↔ (sk_pr rdo (px e) ∧ sk_pr rdo (py e) ∧ sk_pr rdo (pz e))) → post (nM, nN, lc, pc, pl, vs, es, lab, ek, ex, px, py, pz, ew, od, sec, upd rdo e f, sk, sx, sy, sz, sw, dp, so, sh, la, pa, vl, ps, pt, pr)) : wX_judgeExpression_118 post (nI e) (nI e) nM nN lc pc pl vs es lab ek ex px py pz ew od sec rdo sk sx sy sz sw dp so sh la pa vl ps pt pr := by
  have i : vp_in (nI e) 50 := vp_in_nI he (by omega)
  have c := nI_clamp (show e < 2 ^ 31 by omega)
  have n1 : ¬ (1 : Int32) = 0 := by decide
  have F : ¬ (sk_pr rdo (px e) ∧ sk_pr rdo (py e) ∧ sk_pr rdo (pz e)) → post (nM, nN, lc, pc, pl, vs, es, lab, ek, ex, px, py, pz, ew, od, sec, upd rdo e (vp_nar .boolean 0), sk, sx, sy, sz, sw, dp, so, sh, la, pa, vl, ps, pt, pr) := fun z => H _ ⟨fun w => absurd sk_n0 w, fun w => absurd w z⟩
  unfold wX_judgeExpression_118
  rw [c]
  refine ⟨i, sk_xro hp.1 (fun q1 => br_f n1 ⟨i, sk_xro hp.2.1 (fun q2 => br_f n1 ⟨i, sk_xro hp.2.2 (fun q3 => br_f n1 ⟨i, nm_e (H _ ⟨fun _ => ⟨q1, q2, q3⟩, fun _ => by rw [sk_n1]; decide⟩)⟩) (fun q => br_t rfl ⟨i, nm_e (F (fun z => q z.2.2))⟩)⟩) (fun q => br_t rfl ⟨i, nm_e (F (fun z => q z.2.1))⟩)⟩) (fun q => br_t rfl ⟨i, nm_e (F (fun z => q z.1))⟩)⟩
theorem sk_xj94 {post : SX → Prop} {e : Nat} {z z' : Int32} (he : e < 50) (hp : sk_pt (px e) e ∧ sk_pt (py e) e ∧ sk_pt (pz e) e) (hz : vp_nar .boolean z = z')
    (H : ∀ f : Int32, (¬ f = 0 ↔ ((ek e = 2 → ¬ sk_ps sec (py e)) ∧ sk_pr rdo (px e) ∧ sk_pr rdo (py e) ∧ sk_pr rdo (pz e))) → post (nM, nN, lc, pc, pl, vs, es, lab, ek, ex, px, py, pz, ew, od, upd sec e z', upd rdo e f, sk, sx, sy, sz, sw, dp, so, sh, la, pa, vl, ps, pt, pr)) : wX_judgeExpression_94 post (nI e) (ek e) z (nI e) nM nN lc pc pl vs es lab ek ex px py pz ew od sec rdo sk sx sy sz sw dp so sh la pa vl ps pt pr := by
  subst hz
  have i : vp_in (nI e) 50 := vp_in_nI he (by omega)
  have c := nI_clamp (show e < 2 ^ 31 by omega)
  have hp2 : sk_pt (px e) 50 ∧ sk_pt (py e) 50 ∧ sk_pt (pz e) 50 := ⟨sk_pt_le hp.1 (by omega), sk_pt_le hp.2.1 (by omega), sk_pt_le hp.2.2 (by omega)⟩
  have up : sk_ps (upd sec e (vp_nar .boolean z)) (py e) ↔ sk_ps sec (py e) := sk_ps_up hp.2.1 (by omega) (fun j hj => pk_un (by omega))
  unfold wX_judgeExpression_94
  rw [c]
  refine ⟨i, nm_e (br_c (fun k => ⟨i, sk_xis hp2.2.1 (fun q => br_f (by decide) ⟨i, nm_e (H _ ⟨fun w => absurd sk_n0 w, fun w => absurd (up.mp q) (w.1 k)⟩)⟩) (fun q => br_t rfl ?_)⟩) (fun k => ?_))⟩
  · exact sk_xj118 he hp2 (fun f hf => H f ⟨fun w => ⟨fun _ w2 => q (up.mpr w2), hf.mp w⟩, fun w => hf.mpr w.2⟩)
  · exact sk_xj118 he hp2 (fun f hf => H f ⟨fun w => ⟨fun k2 => absurd k2 k, hf.mp w⟩, fun w => hf.mpr w.2⟩)
/-- judgeExpression makes the expression's own equation true and changes nothing else -/
theorem sk_xje {post : SX → Prop} {e : Nat} (he : e < 50) (hn : sk_node ek ex ey ez ew px py pz od e)
    (H : ∀ sec' rdo' : sk_F, (∀ j, ¬ j = e → sec' j = sec j ∧ rdo' j = rdo j) → sk_se lab ek ex px py pz sec' rdo' e → post (nM, nN, lc, pc, pl, vs, es, lab, ek, ex, px, py, pz, ew, od, sec', rdo', sk, sx, sy, sz, sw, dp, so, sh, la, pa, vl, ps, pt, pr)) : wpX_judgeExpression post (nM, nN, lc, pc, pl, vs, es, lab, ek, ex, px, py, pz, ew, od, sec, rdo, sk, sx, sy, sz, sw, dp, so, sh, la, pa, vl, ps, pt, pr) (nI e) := by
  have i : vp_in (nI e) 50 := vp_in_nI he (by omega)
  have c := nI_clamp (show e < 2 ^ 31 by omega)
  have hp := sk_node_pt hn
  have hp2 : sk_pt (px e) 50 ∧ sk_pt (py e) 50 ∧ sk_pt (pz e) 50 := ⟨sk_pt_le hp.1 (by omega), sk_pt_le hp.2.1 (by omega), sk_pt_le hp.2.2 (by omega)⟩
  have K : ∀ z z' : Int32, vp_nar .boolean z = z' → (¬ z' = 0 ↔ ((ek e = 1 ∧ ¬ lab (ex e).toNatClampNeg = 0) ∨ (ek e = 2 ∧ ¬ lab (8 + ex e).toNatClampNeg = 0) ∨ sk_ps sec (px e) ∨ sk_ps sec (py e) ∨ sk_ps sec (pz e))) → wX_judgeExpression_94 post (nI e) (ek e) z (nI e) nM nN lc pc pl vs es lab ek ex px py pz ew od sec rdo sk sx sy sz sw dp so sh la pa vl ps pt pr := by
    intro z z' hz hq
    refine sk_xj94 he hp hz (fun f hf => H _ _ (fun j hj => ⟨pk_un hj, pk_un hj⟩) ?_)
    have us : ∀ j, j < e → upd sec e z' j = sec j := fun j hj => pk_un (by omega)
    have ur : ∀ j, j < e → upd rdo e f j = rdo j := fun j hj => pk_un (by omega)
    unfold sk_se
    rw [pk_us, pk_us, sk_ps_up hp.1 (by omega) us, sk_ps_up hp.2.1 (by omega) us, sk_ps_up hp.2.2 (by omega) us, sk_pr_up hp.1 (by omega) ur, sk_pr_up hp.2.1 (by omega) ur, sk_pr_up hp.2.2 (by omega) ur]
    exact ⟨hq, hf⟩
  have K1 : ((ek e = 1 ∧ ¬ lab (ex e).toNatClampNeg = 0) ∨ (ek e = 2 ∧ ¬ lab (8 + ex e).toNatClampNeg = 0) ∨ sk_ps sec (px e) ∨ sk_ps sec (py e) ∨ sk_ps sec (pz e)) → wX_judgeExpression_94 post (nI e) (ek e) 1 (nI e) nM nN lc pc pl vs es lab ek ex px py pz ew od sec rdo sk sx sy sz sw dp so sh la pa vl ps pt pr :=
    fun q => K 1 1 sk_n1 ⟨fun _ => q, fun _ => by decide⟩
  have K50 : ¬ (ek e = 1 ∧ ¬ lab (ex e).toNatClampNeg = 0) → ¬ (ek e = 2 ∧ ¬ lab (8 + ex e).toNatClampNeg = 0) → wX_judgeExpression_50 post (nI e) (ek e) (nI e) nM nN lc pc pl vs es lab ek ex px py pz ew od sec rdo sk sx sy sz sw dp so sh la pa vl ps pt pr := by
    intro q1 q2
    unfold wX_judgeExpression_50
    rw [c]
    refine ⟨i, sk_xis hp2.1 (fun q => br_f (by decide) (K1 (Or.inr (Or.inr (Or.inl q))))) (fun q3 => br_t rfl ⟨i, sk_xis hp2.2.1 (fun q => br_f (by decide) (K1 (Or.inr (Or.inr (Or.inr (Or.inl q)))))) (fun q4 => br_t rfl ⟨i, sk_xis hp2.2.2 (fun q => br_f (by decide) (K1 (Or.inr (Or.inr (Or.inr (Or.inr q)))))) (fun q5 => br_t rfl (K 0 0 sk_n0 ⟨fun w => absurd rfl w, ?_⟩))⟩)⟩)⟩
    intro w
    rcases w with w | w | w | w | w
    · exact absurd w q1
    · exact absurd w q2
    · exact absurd w q3
    · exact absurd w q4
    · exact absurd w q5
  have i1 : ek e = 1 → vp_in (ex e) 10 := by
    intro k
    rcases hn.2 with ⟨k', _⟩ | ⟨k', _, _, _, _, v, hv, hx⟩ | ⟨k', _⟩ | ⟨k', _⟩ | ⟨k', _⟩ | ⟨k', _⟩
    · rw [k] at k'; exact absurd k' (by decide)
    · rw [hx]; exact vp_in_nI (by omega) (by omega)
    · rw [k] at k'; exact absurd k' (by decide)
    · rw [k] at k'; exact absurd k' (by decide)
    · rw [k] at k'; exact absurd k' (by decide)
    · exact absurd k (sk_bin_ne k').2.1
  have i2 : ek e = 2 → vp_in (8 + ex e) 10 := by
    intro k
    rcases hn.2 with ⟨k', _⟩ | ⟨k', _⟩ | ⟨k', _, _, a, p, ha, _, hx, _⟩ | ⟨k', _⟩ | ⟨k', _⟩ | ⟨k', _⟩
    · rw [k] at k'; exact absurd k' (by decide)
    · rw [k] at k'; exact absurd k' (by decide)
    · rw [hx, show (8 : Int32) = nI 8 from rfl, nI_add]; exact vp_in_nI (by omega) (by omega)
    · rw [k] at k'; exact absurd k' (by decide)
    · rw [k] at k'; exact absurd k' (by decide)
    · exact absurd k (sk_bin_ne k').2.2.1
  have K33 : ¬ (ek e = 1 ∧ ¬ lab (ex e).toNatClampNeg = 0) → wX_judgeExpression_33 post (nI e) (ek e) (ex e) (nI e) nM nN lc pc pl vs es lab ek ex px py pz ew od sec rdo sk sx sy sz sw dp so sh la pa vl ps pt pr := fun q1 =>
    br_c (fun k => ⟨i2 k, br_c (fun z => K50 q1 (fun w => w.2 z)) (fun z => K1 (Or.inr (Or.inl ⟨k, z⟩)))⟩) (fun k => K50 q1 (fun w => k w.1))
  refine ⟨i, nm_r (e' := ek e) (by rw [c]) ⟨i, nm_r (e' := ex e) (by rw [c]) ?_⟩⟩
  exact br_c (fun k => ⟨i1 k, br_c (fun z => K33 (fun w => w.2 z)) (fun z => K1 (Or.inl ⟨k, z⟩))⟩) (fun k => K33 (fun w => k w.1))
theorem sk_xin {post : Int32 → Prop} {x : Int32} {hd : Bool} (hx : sk_pt x 40) (H1 : sk_in so sh hd x → post 1) (H0 : ¬ sk_in so sh hd x → post 0) : wpX_isSafeIn post (nM, nN, lc, pc, pl, vs, es, lab, ek, ex, px, py, pz, ew, od, sec, rdo, sk, sx, sy, sz, sw, dp, so, sh, la, pa, vl, ps, pt, pr) x (sk_bI hd) := by
  by_cases h : x = -1
  · exact br_t h (H1 (Or.inl h))
  · have i := sk_pt_in hx (by omega) h
    cases hd with
    | false => exact br_f h (br_t sk_t0 ⟨i, br_c (fun z => H0 (fun w => w.elim h (fun w => w z))) (fun z => H1 (Or.inr z))⟩)
    | true => exact br_f h (br_f sk_t1 ⟨i, br_c (fun z => H0 (fun w => w.elim h (fun w => w z))) (fun z => H1 (Or.inr z))⟩)
theorem sk_xmt {post : Int32 → Prop} {x p1 : Int32} (hx : vp_in x 10) (H1 : (¬ lab x.toNatClampNeg = 0 ∨ p1 = 0) → post 1) (H0 : ¬ (¬ lab x.toNatClampNeg = 0 ∨ p1 = 0) → post 0) : wpX_mayTake post (nM, nN, lc, pc, pl, vs, es, lab, ek, ex, px, py, pz, ew, od, sec, rdo, sk, sx, sy, sz, sw, dp, so, sh, la, pa, vl, ps, pt, pr) x p1 :=
  ⟨hx, br_c (fun z => br_c (fun w => H1 (Or.inr w)) (fun w => H0 (fun q => q.elim (fun q => q z) w))) (fun z => H1 (Or.inl z))⟩
/-- holdsIn answers whether the statement is safe in the place -/
theorem sk_xhold {post : Int32 → Prop} {s : Nat} {hd : Bool} (hM : M ≤ 50) (hs : s < 40) (hn : sk_stm M ew sk sx sy sz sw dp s) (H1 : sk_sf lab sec rdo sk sx sy sz so sh hd s → post 1) (H0 : ¬ sk_sf lab sec rdo sk sx sy sz so sh hd s → post 0) : wpX_holdsIn post (nM, nN, lc, pc, pl, vs, es, lab, ek, ex, px, py, pz, ew, od, sec, rdo, sk, sx, sy, sz, sw, dp, so, sh, la, pa, vl, ps, pt, pr) (nI s) (sk_bI hd) := by
  have i : vp_in (nI s) 40 := vp_in_nI hs (by omega)
  have c := nI_clamp (show s < 2 ^ 31 by omega)
  have iE : ∀ p, p < M → vp_in (nI p) 50 := fun p hp => vp_in_nI (by omega) (by omega)
  have pS : ∀ p, p < s → sk_pt (nI p) 40 := fun p hp => Or.inr ⟨p, by omega, rfl⟩
  have hf : ∀ {hd : Bool}, ¬ hd = false → hd = true := fun {hd} h => by cases hd; exact absurd rfl h; rfl
  refine ⟨i, nm_r (e' := sx s) (by rw [c]) ⟨i, nm_r (e' := sy s) (by rw [c]) ⟨i, nm_r (e' := sz s) (by rw [c]) ⟨i, nm_r (e' := sk s) (by rw [c]) ?_⟩⟩⟩⟩
  rcases hn.2 with ⟨k, x, p, hx, hp, x1, x2⟩ | ⟨k, a, p, q, ha, hp, hq, x1, x2, x3, r⟩ | ⟨k, p, q, hp, hq, x1, x2, r⟩ | ⟨k, p, q, hp, hq, x1, x2, d, w, r⟩ | ⟨k, x, q, hx, hq, x1, x2, r⟩ | ⟨k, p, q, hp, hq, x1, x2, r⟩ | ⟨k, p, hp, x1⟩
  · rw [sk_sf_0 k] at H1 H0
    rw [k, x1, x2]
    rw [x1, x2] at H1 H0
    have ix : vp_in (nI x) 10 := vp_in_nI (by omega) (by omega)
    unfold wX_holdsIn_94 wX_holdsIn_99
    refine br_f (by decide) (br_f (by decide) (br_t rfl ⟨iE p hp, br_c (fun z => H0 (fun w => w.1 z)) (fun z => ?_)⟩))
    cases hd with
    | false =>
      refine br_t sk_t0 ⟨iE p hp, br_c (fun z2 => (sk_xmt ix (fun q => br_f (by decide) (H1 ⟨z, q.imp id (fun _ => ⟨rfl, z2⟩)⟩)) (fun q => br_t rfl (H0 (fun w => q (w.2.imp id (fun _ => rfl))))))) (fun z2 => (sk_xmt ix (fun q => br_f (by decide) (H1 ⟨z, Or.inl (q.elim id (fun q => absurd q (by decide)))⟩)) (fun q => br_t rfl (H0 (fun w => q (Or.inl (w.2.elim id (fun w => absurd w.2 z2))))))))⟩
    | true =>
      refine br_f sk_t1 (sk_xmt ix (fun q => br_f (by decide) (H1 ⟨z, Or.inl (q.elim id (fun q => absurd q (by decide)))⟩)) (fun q => br_t rfl (H0 (fun w => q (Or.inl (w.2.elim id (fun w => absurd w.1 (by decide))))))))
  · rw [sk_sf_1 k] at H1 H0
    rw [k, x1, x2, x3]
    rw [x1, x2, x3] at H1 H0
    have ix : vp_in (8 + nI a) 10 := by rw [show (8 : Int32) = nI 8 from rfl, nI_add]; exact vp_in_nI (by omega) (by omega)
    unfold wX_holdsIn_160 wX_holdsIn_165
    refine br_f (by decide) (br_f (by decide) (br_f (by decide) (br_t rfl ⟨iE p hp, br_c (fun z => H0 (fun w => w.1 z)) (fun z => ⟨iE q hq, br_c (fun y => H0 (fun w => w.2.1 y)) (fun y => ⟨iE p hp, br_c (fun u => ?_) (fun u => H0 (fun w => u w.2.2.1))⟩)⟩)⟩)))
    cases hd with
    | false =>
      refine br_t sk_t0 ⟨iE q hq, br_c (fun z2 => (sk_xmt ix (fun q => br_f (by decide) (H1 ⟨z, y, u, q.imp id (fun _ => ⟨rfl, z2⟩)⟩)) (fun q => br_t rfl (H0 (fun w => q (w.2.2.2.imp id (fun _ => rfl))))))) (fun z2 => (sk_xmt ix (fun q => br_f (by decide) (H1 ⟨z, y, u, Or.inl (q.elim id (fun q => absurd q (by decide)))⟩)) (fun q => br_t rfl (H0 (fun w => q (Or.inl (w.2.2.2.elim id (fun w => absurd w.2 z2))))))))⟩
    | true =>
      refine br_f sk_t1 (sk_xmt ix (fun q => br_f (by decide) (H1 ⟨z, y, u, Or.inl (q.elim id (fun q => absurd q (by decide)))⟩)) (fun q => br_t rfl (H0 (fun w => q (Or.inl (w.2.2.2.elim id (fun w => absurd w.1 (by decide))))))))
  · rw [sk_sf_2 k] at H1 H0
    rw [k, x1, x2]
    rw [x1, x2] at H1 H0
    exact br_f (by decide) (br_f (by decide) (br_f (by decide) (br_f (by decide) (br_t rfl (sk_xin (pS p hp) (fun y => br_f (by decide) (sk_xin (pS q hq) (fun z => br_f (by decide) (H1 ⟨y, z⟩)) (fun z => br_t rfl (H0 (fun w => z w.2))))) (fun y => br_t rfl (H0 (fun w => y w.1))))))))
  · rw [sk_sf_3 k] at H1 H0
    have hz : sk_pt (sz s) 40 := by
      rcases r with r | ⟨z, hz, r, _⟩
      · exact Or.inl r
      · exact Or.inr ⟨z, by omega, r⟩
    rw [k, x1, x2]
    rw [x1, x2] at H1 H0
    have V : ∀ hd2 : Bool, (hd || decide (¬ sec (nI p).toNatClampNeg = 0)) = hd2 → wX_holdsIn_220 post (nI p) (nI q) (sz s) (sk_bI hd2) nM nN lc pc pl vs es lab ek ex px py pz ew od sec rdo sk sx sy sz sw dp so sh la pa vl ps pt pr := by
      intro hd2 e
      rw [e] at H1 H0
      exact ⟨iE p hp, br_c (fun y => H0 (fun w => w.1 y)) (fun y => sk_xin (pS q hq) (fun y2 => br_f (by decide) (sk_xin hz (fun y3 => br_f (by decide) (H1 ⟨y, y2, y3⟩)) (fun y3 => br_t rfl (H0 (fun w => y3 w.2.2))))) (fun y2 => br_t rfl (H0 (fun w => y2 w.2.1))))⟩
    cases hd with
    | false => exact br_f (by decide) (br_f (by decide) (br_f (by decide) (br_f (by decide) (br_f (by decide) (br_t rfl (br_t sk_t0 ⟨iE p hp, br_c (fun z => V false (by simp [z])) (fun z => V true (by simp [z]))⟩))))))
    | true => exact br_f (by decide) (br_f (by decide) (br_f (by decide) (br_f (by decide) (br_f (by decide) (br_t rfl (br_f sk_t1 (V true rfl)))))))
  · rw [sk_sf_4 k] at H1 H0
    rw [k, x2]
    rw [x2] at H1 H0
    exact br_f (by decide) (br_f (by decide) (br_f (by decide) (br_f (by decide) (br_f (by decide) (br_f (by decide) (br_t rfl (sk_xin (pS q hq) (fun y => ⟨rfl, H1 y⟩) (fun y => ⟨rfl, H0 y⟩))))))))
  · rw [sk_sf_5 k] at H1 H0
    rw [k, x1, x2]
    rw [x1, x2] at H1 H0
    cases hd with
    | false => exact br_f (by decide) (br_f (by decide) (br_f (by decide) (br_f (by decide) (br_f (by decide) (br_f (by decide) (br_f (by decide) (br_t rfl (br_t sk_t0 ⟨iE p hp, br_c (fun z => H0 (fun w => w.2.1 z)) (fun z => ⟨iE p hp, br_c (fun y => sk_xin (hd := false) (pS q hq) (fun u => br_f (by decide) (H1 ⟨rfl, z, y, u⟩)) (fun u => br_t rfl (H0 (fun w => u w.2.2.2)))) (fun y => H0 (fun w => y w.2.2.1))⟩)⟩))))))))
    | true => exact br_f (by decide) (br_f (by decide) (br_f (by decide) (br_f (by decide) (br_f (by decide) (br_f (by decide) (br_f (by decide) (br_t rfl (br_f sk_t1 (H0 (fun w => absurd w.1 (by decide)))))))))))
  · rw [sk_sf_6 k] at H1 H0
    rw [k, x1]
    rw [x1] at H1 H0
    cases hd with
    | false => exact br_f (by decide) (br_t (by decide) (br_t sk_t0 ⟨iE p hp, br_c (fun z => H0 (fun w => w.2.1 z)) (fun z => ⟨iE p hp, br_c (fun y => H1 ⟨rfl, z, y⟩) (fun y => H0 (fun w => y w.2.2))⟩)⟩))
    | true => exact br_f (by decide) (br_t (by decide) (br_f sk_t1 (H0 (fun w => absurd w.1 (by decide)))))
/-- judgeStatement makes the statement's own equation true and changes nothing else -/
theorem sk_xjs {post : SX → Prop} {s : Nat} (hM : M ≤ 50) (hs : s < 40) (hn : sk_stm M ew sk sx sy sz sw dp s)
    (H : ∀ so' sh' : sk_F, (∀ j, ¬ j = s → so' j = so j ∧ sh' j = sh j) → sk_sfe lab sec rdo sk sx sy sz so' sh' s → post (nM, nN, lc, pc, pl, vs, es, lab, ek, ex, px, py, pz, ew, od, sec, rdo, sk, sx, sy, sz, sw, dp, so', sh', la, pa, vl, ps, pt, pr)) : wpX_judgeStatement post (nM, nN, lc, pc, pl, vs, es, lab, ek, ex, px, py, pz, ew, od, sec, rdo, sk, sx, sy, sz, sw, dp, so, sh, la, pa, vl, ps, pt, pr) (nI s) := by
  have i : vp_in (nI s) 40 := vp_in_nI hs (by omega)
  have c := nI_clamp (show s < 2 ^ 31 by omega)
  have K : ∀ f1 f2 : Int32, (¬ f1 = 0 ↔ sk_sf lab sec rdo sk sx sy sz so sh false s) → (¬ f2 = 0 ↔ sk_sf lab sec rdo sk sx sy sz (upd so s f1) sh true s) → post (nM, nN, lc, pc, pl, vs, es, lab, ek, ex, px, py, pz, ew, od, sec, rdo, sk, sx, sy, sz, sw, dp, upd so s f1, upd sh s f2, la, pa, vl, ps, pt, pr) := by
    intro f1 f2 q1 q2
    refine H _ _ (fun j hj => ⟨pk_un hj, pk_un hj⟩) ?_
    have ag : ∀ j, j < s → upd so s f1 j = so j ∧ upd sh s f2 j = sh j := fun j hj => ⟨pk_un (by omega), pk_un (by omega)⟩
    have ag2 : ∀ j, j < s → upd so s f1 j = so j ∧ sh j = sh j := fun j hj => ⟨pk_un (by omega), rfl⟩
    unfold sk_sfe
    rw [pk_us, pk_us, sk_sf_up hM (by omega) hn (fun _ _ => ⟨rfl, rfl⟩) ag ⟨rfl, rfl, rfl, rfl⟩, sk_sf_up hM (by omega) hn (fun _ _ => ⟨rfl, rfl⟩) ag ⟨rfl, rfl, rfl, rfl⟩]
    rw [sk_sf_up hM (by omega) hn (fun _ _ => ⟨rfl, rfl⟩) ag2 ⟨rfl, rfl, rfl, rfl⟩] at q2
    exact ⟨q1, q2⟩
  have L : ∀ z1 : Int32, (¬ z1 = 0 ↔ sk_sf lab sec rdo sk sx sy sz so sh false s) → wpX_holdsIn (fun r_35 => (vp_in (nI s) 40 ∧ ∀ a : sk_F, a = upd sh (nI s).toNatClampNeg (vp_nar .boolean r_35) → post (nM, nN, lc, pc, pl, vs, es, lab, ek, ex, px, py, pz, ew, od, sec, rdo, sk, sx, sy, sz, sw, dp, upd so s z1, a, la, pa, vl, ps, pt, pr))) (nM, nN, lc, pc, pl, vs, es, lab, ek, ex, px, py, pz, ew, od, sec, rdo, sk, sx, sy, sz, sw, dp, upd so s z1, sh, la, pa, vl, ps, pt, pr) (nI s) 1 := by
    intro z1 q1
    exact sk_xhold (hd := true) hM hs hn (fun q => ⟨i, nm_r (e' := upd sh s 1) (by rw [c, sk_n1]) (K z1 1 q1 ⟨fun _ => q, fun _ => by decide⟩)⟩) (fun q => ⟨i, nm_r (e' := upd sh s 0) (by rw [c, sk_n0]) (K z1 0 q1 ⟨fun w => absurd rfl w, fun w => absurd w q⟩)⟩)
  unfold wpX_judgeStatement
  exact sk_xhold (hd := false) hM hs hn (fun q => ⟨i, nm_r (e' := upd so s 1) (by rw [c, sk_n1]) (L 1 ⟨fun _ => q, fun _ => by decide⟩)⟩) (fun q => ⟨i, nm_r (e' := upd so s 0) (by rw [c, sk_n0]) (L 0 ⟨fun w => absurd rfl w, fun w => absurd w q⟩)⟩)
end
end
section
/-! 11: Y finds what is secret and what is safe -/
section
variable {nM nN lc pc de tp hg : Int32} {M N : Nat} {vs es lab ek ex ey ez px py pz ew od hid wld sec rdo sk sx sy sz sw dp oS hS so sh la pa wk aw fd dg st rl ch : sk_F}
def sk_fl (c : Prop) (x q : Int32) (e : Nat) : Prop := (c → ∃ p, p < e ∧ x = nI p ∧ q = nI p) ∧ (¬ c → q = -1)
theorem sk_node_w {e : Nat} (h : sk_node ek ex ey ez ew px py pz od e) : sk_fl (¬ ek e < 3) (ex e) (px e) e ∧ sk_fl (ek e = 2 ∨ (¬ ek e < 3 ∧ ¬ ek e = 13)) (ey e) (py e) e ∧ sk_fl (ek e = 14) (ez e) (pz e) e := by
  rcases h.2 with ⟨k, _, a, b, c⟩ | ⟨k, _, a, b, c, _⟩ | ⟨k, a, c, _, p, _, hp, _, x2, b, _⟩ | ⟨k, b, c, p, hp, x1, a, _⟩ | ⟨k, p, q, r, hp, hq, hr, x1, x2, x3, a, b, c, _⟩ | ⟨k, c, p, q, hp, hq, x1, x2, a, b, _⟩
  · unfold sk_fl
    rw [k]
    exact ⟨⟨fun z => absurd (by decide) z, fun _ => a⟩, ⟨fun z => absurd z (by decide), fun _ => b⟩, ⟨fun z => absurd z (by decide), fun _ => c⟩⟩
  · unfold sk_fl
    rw [k]
    exact ⟨⟨fun z => absurd (by decide) z, fun _ => a⟩, ⟨fun z => absurd z (by decide), fun _ => b⟩, ⟨fun z => absurd z (by decide), fun _ => c⟩⟩
  · unfold sk_fl
    rw [k]
    exact ⟨⟨fun z => absurd (by decide) z, fun _ => a⟩, ⟨fun _ => ⟨p, hp, x2, b⟩, fun z => absurd (Or.inl rfl) z⟩, ⟨fun z => absurd z (by decide), fun _ => c⟩⟩
  · unfold sk_fl
    rw [k]
    exact ⟨⟨fun _ => ⟨p, hp, x1, a⟩, fun z => absurd (by decide) z⟩, ⟨fun z => absurd z (by decide), fun _ => b⟩, ⟨fun z => absurd z (by decide), fun _ => c⟩⟩
  · unfold sk_fl
    rw [k]
    exact ⟨⟨fun _ => ⟨p, hp, x1, a⟩, fun z => absurd (by decide) z⟩, ⟨fun _ => ⟨q, hq, x2, b⟩, fun z => absurd (by decide) z⟩, ⟨fun _ => ⟨r, hr, x3, c⟩, fun z => absurd rfl z⟩⟩
  · obtain ⟨_, _, n2, n13, n14⟩ := sk_bin_ne k
    have g3 : ¬ ek e < 3 := Int32.not_lt.mpr (sk_bin_ge k)
    exact ⟨⟨fun _ => ⟨p, hp, x1, a⟩, fun z => absurd g3 z⟩, ⟨fun _ => ⟨q, hq, x2, b⟩, fun z => absurd (Or.inr ⟨g3, n13⟩) z⟩, ⟨fun z => absurd z n14, fun _ => c⟩⟩
theorem sk_fl_h {c : Prop} {x q : Int32} {e : Nat} (h : sk_fl c x q e) (he : e ≤ 50) (ih : ∀ j, j < e → (hid j = 0 ↔ sec j = 0)) : (c → vp_in x 50 ∧ (hid x.toNatClampNeg = 0 ↔ ¬ sk_ps sec q)) ∧ (¬ c → ¬ sk_ps sec q) := by
  refine ⟨fun hc => ?_, fun hc z => z.1 (h.2 hc)⟩
  obtain ⟨p, hp, e1, e2⟩ := h.1 hc
  unfold sk_ps
  rw [e1, e2, nI_clamp (by omega), ih p hp]
  refine ⟨vp_in_nI (by omega) (by omega), fun z w => w.2 z, fun z => ?_⟩
  by_cases w : sec p = 0
  · exact w
  · exact absurd ⟨sk_m1 (by omega), w⟩ z
theorem sk_fl_w {c : Prop} {x q : Int32} {e : Nat} (h : sk_fl c x q e) (he : e ≤ 50) (ih : ∀ j, j < e → (wld j = 0 ↔ ¬ rdo j = 0)) : (c → vp_in x 50 ∧ (wld x.toNatClampNeg = 0 ↔ sk_pr rdo q)) ∧ (¬ c → sk_pr rdo q) := by
  refine ⟨fun hc => ?_, fun hc => Or.inl (h.2 hc)⟩
  obtain ⟨p, hp, e1, e2⟩ := h.1 hc
  unfold sk_pr
  rw [e1, e2, nI_clamp (by omega), ih p hp]
  exact ⟨vp_in_nI (by omega) (by omega), fun z => Or.inr z, fun z => z.elim (fun z => absurd z (sk_m1 (by omega))) id⟩
theorem sk_yhy {post : Int32 → Prop} {k : Int32} (H1 : (k = 2 ∨ (¬ k < 3 ∧ ¬ k = 13)) → post 1) (H0 : ¬ (k = 2 ∨ (¬ k < 3 ∧ ¬ k = 13)) → post 0) : wpY_hasY post (nM, nN, lc, pc, de, tp, hg, ek, ex, ey, ez, ew, hid, wld, sk, sx, sy, sz, sw, dp, oS, hS, lab, vs, es, la, pa, wk, aw, fd, dg, st, rl, ch) k :=
  br_c (fun z => H1 (Or.inl z)) (fun z => br_c (fun w => H0 (fun q => q.elim z (fun q => q.1 w))) (fun w => br_c (fun v => H0 (fun q => q.elim z (fun q => q.2 v))) (fun v => H1 (Or.inr ⟨w, v⟩))))
theorem sk_yf166 {post : SY → Prop} {J : Int32 → sk_F → sk_F → sk_F → sk_F → sk_F → sk_F → sk_F → sk_F → sk_F → sk_F → sk_F → sk_F → sk_F → sk_F → sk_F → sk_F → sk_F → sk_F → sk_F → sk_F → sk_F → sk_F → sk_F → sk_F → sk_F → sk_F → sk_F → Prop} {e : Nat} {x4 z z' : Int32} (he : e < 50) (hw : sk_node ek ex ey ez ew px py pz od e) (ih : ∀ j, j < e → (wld j = 0 ↔ ¬ rdo j = 0)) (hr : ¬ rdo e = 0 ↔ ((ek e = 2 → ¬ sk_ps sec (py e)) ∧ sk_pr rdo (px e) ∧ sk_pr rdo (py e) ∧ sk_pr rdo (pz e)))
    (hx4 : x4 = 0 ↔ ¬ sk_ps sec (py e)) (hz : vp_nar .boolean z = z') (hz0 : z' = 0 ↔ sec e = 0) (HJ : ∀ f1 f2 : Int32, (f1 = 0 ↔ sec e = 0) → (f2 = 0 ↔ ¬ rdo e = 0) → J (nI (e + 1)) ek ex ey ez ew ((upd hid e f1)) ((upd wld e f2)) sk sx sy sz sw dp oS hS lab vs es la pa wk aw fd dg st rl ch) : wY_findSecrets_166 post J (nI e) (ek e) x4 z (nI e) nM nN lc pc de tp hg ek ex ey ez ew hid wld sk sx sy sz sw dp oS hS lab vs es la pa wk aw fd dg st rl ch := by
  have i : vp_in (nI e) 50 := vp_in_nI he (by omega)
  have c := nI_clamp (show e < 2 ^ 31 by omega)
  obtain ⟨fx, fy, fz⟩ := sk_node_w hw
  obtain ⟨wx1, wx0⟩ := sk_fl_w fx (by omega) ih
  obtain ⟨wy1, wy0⟩ := sk_fl_w fy (by omega) ih
  obtain ⟨wz1, wz0⟩ := sk_fl_w fz (by omega) ih
  have D1 : ¬ ((ek e = 2 → ¬ sk_ps sec (py e)) ∧ sk_pr rdo (px e) ∧ sk_pr rdo (py e) ∧ sk_pr rdo (pz e)) → J (nI (e + 1)) ek ex ey ez ew ((upd hid e z')) ((upd wld e (vp_nar .boolean 1))) sk sx sy sz sw dp oS hS lab vs es la pa wk aw fd dg st rl ch := fun q => HJ _ _ hz0 ⟨fun w => absurd w (by rw [sk_n1]; decide), fun w => absurd (hr.mp w) q⟩
  have D0 : ((ek e = 2 → ¬ sk_ps sec (py e)) ∧ sk_pr rdo (px e) ∧ sk_pr rdo (py e) ∧ sk_pr rdo (pz e)) → J (nI (e + 1)) ek ex ey ez ew ((upd hid e z')) ((upd wld e (vp_nar .boolean 0))) sk sx sy sz sw dp oS hS lab vs es la pa wk aw fd dg st rl ch := fun q => HJ _ _ hz0 ⟨fun _ => hr.mpr q, fun _ => sk_n0⟩
  have H236 : sk_pr rdo (px e) → sk_pr rdo (py e) → sk_pr rdo (pz e) → wY_findSecrets_236 post J (nI e) (ek e) x4 (nI e) nM nN lc pc de tp hg ek ex ey ez ew (upd hid e z') wld sk sx sy sz sw dp oS hS lab vs es la pa wk aw fd dg st rl ch := by
    intro q1 q2 q3
    unfold wY_findSecrets_236
    rw [c]
    exact br_c (fun k => br_c (fun w => ⟨i, nm_e (nm_r (nI_1 e) (D0 ⟨fun _ => hx4.mp w, q1, q2, q3⟩))⟩) (fun w => ⟨i, nm_e (nm_r (nI_1 e) (D1 (fun v => w (hx4.mpr (v.1 k)))))⟩)) (fun k => ⟨i, nm_e (nm_r (nI_1 e) (D0 ⟨fun k2 => absurd k2 k, q1, q2, q3⟩))⟩)
  have H216 : sk_pr rdo (px e) → sk_pr rdo (py e) → wY_findSecrets_216 post J (nI e) (ek e) x4 (nI e) nM nN lc pc de tp hg ek ex ey ez ew (upd hid e z') wld sk sx sy sz sw dp oS hS lab vs es la pa wk aw fd dg st rl ch := by
    intro q1 q2
    unfold wY_findSecrets_216
    rw [c]
    exact br_c (fun k => ⟨i, (wz1 k).1, br_c (fun w => H236 q1 q2 ((wz1 k).2.mp w)) (fun w => ⟨i, nm_e (nm_r (nI_1 e) (D1 (fun v => w ((wz1 k).2.mpr v.2.2.2))))⟩)⟩) (fun k => H236 q1 q2 (wz0 k))
  have H194 : sk_pr rdo (px e) → wY_findSecrets_194 post J (nI e) (ek e) x4 (nI e) nM nN lc pc de tp hg ek ex ey ez ew (upd hid e z') wld sk sx sy sz sw dp oS hS lab vs es la pa wk aw fd dg st rl ch := by
    intro q1
    unfold wY_findSecrets_194
    rw [c]
    exact sk_yhy (fun k => br_f (by decide) ⟨i, (wy1 k).1, br_c (fun w => H216 q1 ((wy1 k).2.mp w)) (fun w => ⟨i, nm_e (nm_r (nI_1 e) (D1 (fun v => w ((wy1 k).2.mpr v.2.2.1))))⟩)⟩) (fun k => br_t rfl (H216 q1 (wy0 k)))
  unfold wY_findSecrets_166
  rw [c]
  exact ⟨i, nm_r (e' := upd hid e z') (by rw [hz]) (br_c (fun k => br_t rfl (H194 (wx0 (fun z => z k)))) (fun k => br_f (by decide) ⟨i, (wx1 k).1, br_c (fun w => H194 ((wx1 k).2.mp w)) (fun w => ⟨i, nm_e (nm_r (nI_1 e) (D1 (fun v => w ((wx1 k).2.mpr v.2.1))))⟩)⟩))⟩
/-- one turn of findSecrets -/
theorem sk_yfs1 {post : SY → Prop} {n e : Nat} (he : e < M) (hM : M ≤ 50) (hw : sk_node ek ex ey ez ew px py pz od e) (hse : sk_se lab ek ex px py pz sec rdo e) (ih1 : ∀ j, j < e → (hid j = 0 ↔ sec j = 0)) (ih2 : ∀ j, j < e → (wld j = 0 ↔ ¬ rdo j = 0))
    (HJ : ∀ f1 f2 : Int32, (f1 = 0 ↔ sec e = 0) → (f2 = 0 ↔ ¬ rdo e = 0) → wY_findSecrets_2 post (nI M) nN lc pc de tp hg n (nI (e + 1)) ek ex ey ez ew ((upd hid e f1)) ((upd wld e f2)) sk sx sy sz sw dp oS hS lab vs es la pa wk aw fd dg st rl ch) : wY_findSecrets_2 post (nI M) nN lc pc de tp hg (n + 1) (nI e) ek ex ey ez ew hid wld sk sx sy sz sw dp oS hS lab vs es la pa wk aw fd dg st rl ch := by
  have i : vp_in (nI e) 50 := vp_in_nI (by omega) (by omega)
  have c := nI_clamp (show e < 2 ^ 31 by omega)
  obtain ⟨fx, fy, fz⟩ := sk_node_w hw
  obtain ⟨sx1, sx0⟩ := sk_fl_h fx (by omega) ih1
  obtain ⟨sy1, sy0⟩ := sk_fl_h fy (by omega) ih1
  obtain ⟨sz1, sz0⟩ := sk_fl_h fz (by omega) ih1
  have K1 : ((ek e = 1 ∧ ¬ lab (ex e).toNatClampNeg = 0) ∨ (ek e = 2 ∧ ¬ lab (8 + ex e).toNatClampNeg = 0) ∨ sk_ps sec (px e) ∨ sk_ps sec (py e) ∨ sk_ps sec (pz e)) → ∀ x4 : Int32, (x4 = 0 ↔ ¬ sk_ps sec (py e)) → wY_findSecrets_166 post (wY_findSecrets_2 post (nI M) nN lc pc de tp hg n) (nI e) (ek e) x4 1 (nI e) (nI M) nN lc pc de tp hg ek ex ey ez ew hid wld sk sx sy sz sw dp oS hS lab vs es la pa wk aw fd dg st rl ch :=
    fun q x4 hx4 => sk_yf166 (by omega) hw ih2 hse.2 hx4 sk_n1 ⟨fun w => absurd w (by decide), fun w => absurd w (hse.1.mpr q)⟩ HJ
  have K0 : ¬ ((ek e = 1 ∧ ¬ lab (ex e).toNatClampNeg = 0) ∨ (ek e = 2 ∧ ¬ lab (8 + ex e).toNatClampNeg = 0) ∨ sk_ps sec (px e) ∨ sk_ps sec (py e) ∨ sk_ps sec (pz e)) → ∀ x4 : Int32, (x4 = 0 ↔ ¬ sk_ps sec (py e)) → wY_findSecrets_166 post (wY_findSecrets_2 post (nI M) nN lc pc de tp hg n) (nI e) (ek e) x4 0 (nI e) (nI M) nN lc pc de tp hg ek ex ey ez ew hid wld sk sx sy sz sw dp oS hS lab vs es la pa wk aw fd dg st rl ch :=
    fun q x4 hx4 => sk_yf166 (by omega) hw ih2 hse.2 hx4 sk_n0 ⟨fun _ => by
      by_cases w : sec e = 0
      · exact w
      · exact absurd (hse.1.mp w) q, fun _ => rfl⟩ HJ
  have i1 : ek e = 1 → vp_in (ex e) 10 := by
    intro k
    rcases hw.2 with ⟨k', _⟩ | ⟨k', _, _, _, _, v, hv, hx⟩ | ⟨k', _⟩ | ⟨k', _⟩ | ⟨k', _⟩ | ⟨k', _⟩
    · rw [k] at k'; exact absurd k' (by decide)
    · rw [hx]; exact vp_in_nI (by omega) (by omega)
    · rw [k] at k'; exact absurd k' (by decide)
    · rw [k] at k'; exact absurd k' (by decide)
    · rw [k] at k'; exact absurd k' (by decide)
    · exact absurd k (sk_bin_ne k').2.1
  have i2 : ek e = 2 → vp_in (8 + ex e) 10 := by
    intro k
    rcases hw.2 with ⟨k', _⟩ | ⟨k', _⟩ | ⟨k', _, _, a, p, ha, _, hx, _⟩ | ⟨k', _⟩ | ⟨k', _⟩ | ⟨k', _⟩
    · rw [k] at k'; exact absurd k' (by decide)
    · rw [k] at k'; exact absurd k' (by decide)
    · rw [hx, show (8 : Int32) = nI 8 from rfl, nI_add]; exact vp_in_nI (by omega) (by omega)
    · rw [k] at k'; exact absurd k' (by decide)
    · rw [k] at k'; exact absurd k' (by decide)
    · exact absurd k (sk_bin_ne k').2.2.1
  have H139 : ¬ (ek e = 1 ∧ ¬ lab (ex e).toNatClampNeg = 0) → ¬ sk_ps sec (px e) → ¬ sk_ps sec (py e) → ¬ sk_ps sec (pz e) → ∀ x4 : Int32, (x4 = 0 ↔ ¬ sk_ps sec (py e)) → wY_findSecrets_139 post (wY_findSecrets_2 post (nI M) nN lc pc de tp hg n) (nI e) (ek e) x4 (nI e) (nI M) nN lc pc de tp hg ek ex ey ez ew hid wld sk sx sy sz sw dp oS hS lab vs es la pa wk aw fd dg st rl ch := by
    intro q1 q2 q3 q4 x4 hx4
    have NS : ¬ (ek e = 2 ∧ ¬ lab (8 + ex e).toNatClampNeg = 0) → ¬ ((ek e = 1 ∧ ¬ lab (ex e).toNatClampNeg = 0) ∨ (ek e = 2 ∧ ¬ lab (8 + ex e).toNatClampNeg = 0) ∨ sk_ps sec (px e) ∨ sk_ps sec (py e) ∨ sk_ps sec (pz e)) := by
      intro q5 w
      rcases w with w | w | w | w | w
      · exact q1 w
      · exact q5 w
      · exact q2 w
      · exact q3 w
      · exact q4 w
    unfold wY_findSecrets_139
    rw [c]
    exact br_c (fun k => ⟨i, i2 k, br_c (fun w => K0 (NS (fun v => v.2 w)) x4 hx4) (fun w => K1 (Or.inr (Or.inl ⟨k, w⟩)) x4 hx4)⟩) (fun k => K0 (NS (fun v => k v.1)) x4 hx4)
  have H99 : ∀ x3 x4 z0 : Int32, (x3 = 0 ↔ ¬ sk_ps sec (px e)) → (x4 = 0 ↔ ¬ sk_ps sec (py e)) → (z0 = 0 ↔ ¬ sk_ps sec (pz e)) → wY_findSecrets_99 post (wY_findSecrets_2 post (nI M) nN lc pc de tp hg n) (nI e) (ek e) x3 x4 z0 (nI M) nN lc pc de tp hg ek ex ey ez ew hid wld sk sx sy sz sw dp oS hS lab vs es la pa wk aw fd dg st rl ch := by
    intro x3 x4 z0 h3 h4 h5
    have P : ∀ {x : Int32} {Q : Prop}, (x = 0 ↔ ¬ Q) → ¬ x = 0 → Q := by
      intro x Q h w
      by_cases q : Q
      · exact q
      · exact absurd (h.mpr q) w
    unfold wY_findSecrets_99
    rw [c]
    exact br_c (fun w3 => br_c (fun w4 => br_c (fun w5 => br_c (fun k => ⟨i, i1 k, br_c (fun v => H139 (fun u => u.2 v) (h3.mp w3) (h4.mp w4) (h5.mp w5) x4 h4) (fun v => K1 (Or.inl ⟨k, v⟩) x4 h4)⟩) (fun k => H139 (fun u => k u.1) (h3.mp w3) (h4.mp w4) (h5.mp w5) x4 h4)) (fun w5 => K1 (Or.inr (Or.inr (Or.inr (Or.inr (P h5 w5))))) x4 h4)) (fun w4 => K1 (Or.inr (Or.inr (Or.inr (Or.inl (P h4 w4))))) x4 h4)) (fun w3 => K1 (Or.inr (Or.inr (Or.inl (P h3 w3)))) x4 h4)
  have Z0 : ∀ {Q : Prop}, ¬ Q → ((0 : Int32) = 0 ↔ ¬ Q) := fun q => ⟨fun _ => q, fun _ => rfl⟩
  have O1 : ∀ {x : Int32} {Q : Prop}, (x = 0 ↔ ¬ Q) → ¬ x = 0 → ((1 : Int32) = 0 ↔ ¬ Q) := fun h w => ⟨fun z => absurd z (by decide), fun z => absurd (h.mpr z) w⟩
  have H72 : ∀ x3 z0 : Int32, (x3 = 0 ↔ ¬ sk_ps sec (px e)) → (z0 = 0 ↔ ¬ sk_ps sec (py e)) → wY_findSecrets_72 post (wY_findSecrets_2 post (nI M) nN lc pc de tp hg n) (nI e) (ek e) x3 z0 (nI M) nN lc pc de tp hg ek ex ey ez ew hid wld sk sx sy sz sw dp oS hS lab vs es la pa wk aw fd dg st rl ch := by
    intro x3 z0 h3 h4
    unfold wY_findSecrets_72
    rw [c]
    exact br_c (fun k => ⟨i, (sz1 k).1, br_c (fun w => H99 x3 z0 0 h3 h4 (Z0 ((sz1 k).2.mp w))) (fun w => H99 x3 z0 1 h3 h4 (O1 (sz1 k).2 w))⟩) (fun k => H99 x3 z0 0 h3 h4 (Z0 (sz0 k)))
  have H44 : ∀ z0 : Int32, (z0 = 0 ↔ ¬ sk_ps sec (px e)) → wY_findSecrets_44 post (wY_findSecrets_2 post (nI M) nN lc pc de tp hg n) (nI e) (ek e) z0 (nI M) nN lc pc de tp hg ek ex ey ez ew hid wld sk sx sy sz sw dp oS hS lab vs es la pa wk aw fd dg st rl ch := by
    intro z0 h3
    unfold wY_findSecrets_44
    rw [c]
    exact sk_yhy (fun k => br_f (by decide) ⟨i, (sy1 k).1, br_c (fun w => H72 z0 0 h3 (Z0 ((sy1 k).2.mp w))) (fun w => H72 z0 1 h3 (O1 (sy1 k).2 w))⟩) (fun k => br_t rfl (H72 z0 0 h3 (Z0 (sy0 k))))
  refine br_f (nI_ge he (by omega)) ⟨i, nm_r (e' := ek e) (by rw [c]) ?_⟩
  refine br_c (fun k => br_t rfl (H44 0 (Z0 (sx0 (fun z => z k))))) (fun k => br_f (by decide) ?_)
  rw [c]
  exact ⟨i, (sx1 k).1, br_c (fun w => H44 0 (Z0 ((sx1 k).2.mp w))) (fun w => H44 1 (O1 (sx1 k).2 w))⟩
/-- findSecrets finds what X holds -/
theorem sk_yfs {post : SY → Prop} (hM : M ≤ 50) (HE : ∀ e, e < M → sk_node ek ex ey ez ew px py pz od e) (HQ : ∀ e, e < M → sk_se lab ek ex px py pz sec rdo e)
    (H : ∀ hid' wld' : sk_F, (∀ j, j < M → (hid' j = 0 ↔ sec j = 0) ∧ (wld' j = 0 ↔ ¬ rdo j = 0)) → post (nI M, nN, lc, pc, de, tp, hg, ek, ex, ey, ez, ew, hid', wld', sk, sx, sy, sz, sw, dp, oS, hS, lab, vs, es, la, pa, wk, aw, fd, dg, st, rl, ch)) : wpY_findSecrets post (nI M, nN, lc, pc, de, tp, hg, ek, ex, ey, ez, ew, hid, wld, sk, sx, sy, sz, sw, dp, oS, hS, lab, vs, es, la, pa, wk, aw, fd, dg, st, rl, ch) := by
  have L : ∀ (d e : Nat) (hid wld : sk_F), e + d = M → (∀ j, j < e → (hid j = 0 ↔ sec j = 0) ∧ (wld j = 0 ↔ ¬ rdo j = 0)) → wY_findSecrets_2 post (nI M) nN lc pc de tp hg (d + 1) (nI e) ek ex ey ez ew hid wld sk sx sy sz sw dp oS hS lab vs es la pa wk aw fd dg st rl ch := by
    intro d
    induction d with
    | zero =>
      intro e hid wld hd ih
      have : e = M := by omega
      subst this
      exact br_t (nI_le (Nat.le_refl _) (by omega)) (H hid wld ih)
    | succ d ihd =>
      intro e hid wld hd ih
      refine sk_yfs1 (by omega) hM (HE e (by omega)) (HQ e (by omega)) (fun j hj => (ih j hj).1) (fun j hj => (ih j hj).2) ?_
      intro f1 f2 q1 q2
      refine ihd (e + 1) _ _ (by omega) ?_
      intro j hj
      by_cases hje : j = e
      · subst hje
        rw [pk_us, pk_us]
        exact ⟨q1, q2⟩
      · rw [pk_un hje, pk_un hje]
        exact ih j (by omega)
  exact ⟨M + 1, L M 0 hid wld (by omega) (fun j hj => absurd hj (by omega))⟩
/-- isSafe answers whether the statement is safe in the place -/
theorem sk_yis {post : Int32 → Prop} {s : Nat} {hd : Bool} (hM : M ≤ 50) (hs : s < 40) (hn : sk_stm M ew sk sx sy sz sw dp s) (he : ∀ j, j < M → (hid j = 0 ↔ sec j = 0) ∧ (wld j = 0 ↔ ¬ rdo j = 0)) (ih : ∀ j, j < s → ((oS j = 0 ↔ so j = 0) ∧ (oS j = 0 ∨ oS j = 1)) ∧ ((hS j = 0 ↔ sh j = 0) ∧ (hS j = 0 ∨ hS j = 1)))
    (H1 : sk_sf lab sec rdo sk sx sy sz so sh hd s → post 1) (H0 : ¬ sk_sf lab sec rdo sk sx sy sz so sh hd s → post 0) : wpY_isSafe post (nM, nN, lc, pc, de, tp, hg, ek, ex, ey, ez, ew, hid, wld, sk, sx, sy, sz, sw, dp, oS, hS, lab, vs, es, la, pa, wk, aw, fd, dg, st, rl, ch) (nI s) (sk_bI (!hd)) := by
  have i : vp_in (nI s) 40 := vp_in_nI hs (by omega)
  have c := nI_clamp (show s < 2 ^ 31 by omega)
  have iE : ∀ p, p < M → vp_in (nI p) 50 := fun p hp => vp_in_nI (by omega) (by omega)
  have iS : ∀ p, p < s → vp_in (nI p) 40 := fun p hp => vp_in_nI (by omega) (by omega)
  have cE : ∀ p, p < M → (nI p).toNatClampNeg = p := fun p hp => nI_clamp (by omega)
  have cS : ∀ p, p < s → (nI p).toNatClampNeg = p := fun p hp => nI_clamp (by omega)
  have inO : ∀ p, p < s → (sk_in so sh false (nI p) ↔ ¬ oS p = 0) := by
    intro p hp
    rw [(ih p hp).1.1]
    exact ⟨fun z => sk_in_n (hd := false) (by omega) z, fun z => Or.inr (by rw [cS p hp]; exact z)⟩
  have inH : ∀ p, p < s → (sk_in so sh true (nI p) ↔ ¬ hS p = 0) := by
    intro p hp
    rw [(ih p hp).2.1]
    exact ⟨fun z => sk_in_n (hd := true) (by omega) z, fun z => Or.inr (by rw [cS p hp]; exact z)⟩
  refine ⟨i, nm_r (e' := sk s) (by rw [c]) ⟨i, nm_r (e' := sx s) (by rw [c]) ⟨i, nm_r (e' := sy s) (by rw [c]) ⟨i, nm_r (e' := sz s) (by rw [c]) ?_⟩⟩⟩⟩
  rcases hn.2 with ⟨k, x, p, hx, hp, x1, x2⟩ | ⟨k, a, p, q, ha, hp, hq, x1, x2, x3, r⟩ | ⟨k, p, q, hp, hq, x1, x2, r⟩ | ⟨k, p, q, hp, hq, x1, x2, d, w, r⟩ | ⟨k, x, q, hx, hq, x1, x2, r⟩ | ⟨k, p, q, hp, hq, x1, x2, r⟩ | ⟨k, p, hp, x1⟩
  · rw [sk_sf_0 k, x1, x2, cE p hp] at H1 H0
    rw [k, x1, x2, cE p hp]
    have ix : vp_in (nI x) 10 := vp_in_nI (by omega) (by omega)
    refine br_t rfl ⟨iE p hp, br_c (fun z => ⟨iE p hp, br_c (fun u => ?_) (fun u => ⟨ix, br_c (fun v => H0 (fun w => w.2.elim (fun w => w v) (fun w => u ((he p hp).1.mpr w.2)))) (fun v => ?_)⟩)⟩) (fun z => H0 (fun w => z ((he p hp).2.mpr w.1)))⟩
    · cases hd with
      | false => exact br_f sk_t1 (H1 ⟨(he p hp).2.mp z, Or.inr ⟨rfl, (he p hp).1.mp u⟩⟩)
      | true => exact br_t sk_t0 ⟨ix, br_c (fun v => H0 (fun w => w.2.elim (fun w => w v) (fun w => absurd w.1 (by decide)))) (fun v => H1 ⟨(he p hp).2.mp z, Or.inl v⟩)⟩
    · cases hd with
      | false => exact br_f sk_t1 (H1 ⟨(he p hp).2.mp z, Or.inl v⟩)
      | true => exact br_t sk_t0 ⟨ix, br_c (fun v2 => absurd v2 v) (fun v => H1 ⟨(he p hp).2.mp z, Or.inl v⟩)⟩
  · rw [sk_sf_1 k, x1, x2, x3, cE p hp, cE q hq] at H1 H0
    rw [k, x1, x2, x3, cE p hp, cE q hq]
    have ix : vp_in (8 + nI a) 10 := by rw [show (8 : Int32) = nI 8 from rfl, nI_add]; exact vp_in_nI (by omega) (by omega)
    refine br_f (by decide) (br_t rfl ⟨iE p hp, br_c (fun z => ⟨iE q hq, br_c (fun z2 => ⟨iE p hp, br_c (fun u => ⟨iE q hq, br_c (fun u2 => ?_) (fun u2 => ⟨ix, br_c (fun v => H0 (fun w => w.2.2.2.elim (fun w => w v) (fun w => u2 ((he q hq).1.mpr w.2)))) (fun v => ?_)⟩)⟩) (fun u => H0 (fun w => u ((he p hp).1.mpr w.2.2.1)))⟩) (fun z2 => H0 (fun w => z2 ((he q hq).2.mpr w.2.1)))⟩) (fun z => H0 (fun w => z ((he p hp).2.mpr w.1)))⟩)
    · cases hd with
      | false => exact br_f sk_t1 (H1 ⟨(he p hp).2.mp z, (he q hq).2.mp z2, (he p hp).1.mp u, Or.inr ⟨rfl, (he q hq).1.mp u2⟩⟩)
      | true => exact br_t sk_t0 ⟨ix, br_c (fun v => H0 (fun w => w.2.2.2.elim (fun w => w v) (fun w => absurd w.1 (by decide)))) (fun v => H1 ⟨(he p hp).2.mp z, (he q hq).2.mp z2, (he p hp).1.mp u, Or.inl v⟩)⟩
    · cases hd with
      | false => exact br_f sk_t1 (H1 ⟨(he p hp).2.mp z, (he q hq).2.mp z2, (he p hp).1.mp u, Or.inl v⟩)
      | true => exact br_t sk_t0 ⟨ix, br_c (fun v2 => absurd v2 v) (fun v => H1 ⟨(he p hp).2.mp z, (he q hq).2.mp z2, (he p hp).1.mp u, Or.inl v⟩)⟩
  · rw [sk_sf_2 k, x1, x2] at H1 H0
    rw [k, x1, x2, cS p hp, cS q hq]
    refine br_f (by decide) (br_f (by decide) (br_t rfl ?_))
    cases hd with
    | false =>
      rw [inO p hp, inO q hq] at H1 H0
      exact br_f sk_t1 ⟨iS p hp, br_c (fun z => H0 (fun w => w.1 z)) (fun z => ⟨iS q hq, br_c (fun u => H0 (fun w => w.2 u)) (fun u => H1 ⟨z, u⟩)⟩)⟩
    | true =>
      rw [inH p hp, inH q hq] at H1 H0
      exact br_t sk_t0 ⟨iS p hp, br_c (fun z => H0 (fun w => w.1 z)) (fun z => ⟨iS q hq, br_c (fun u => H0 (fun w => w.2 u)) (fun u => H1 ⟨z, u⟩)⟩)⟩
  · rw [sk_sf_3 k, x1, x2, cE p hp] at H1 H0
    rw [k, x1, x2, cE p hp]
    have V0 : (hd || decide (¬ sec p = 0)) = true → ¬ rdo p = 0 → wY_isSafe_291 post (nI q) (sz s) nM nN lc pc de tp hg ek ex ey ez ew hid wld sk sx sy sz sw dp oS hS lab vs es la pa wk aw fd dg st rl ch := by
      intro e z
      rw [e] at H1 H0
      refine br_t rfl ⟨iS q hq, ?_⟩
      rw [cS q hq]
      refine br_c (fun u => H0 (fun w => (inH q hq).mp w.2.1 u)) (fun u => ?_)
      rcases r with r | ⟨z', hz', r, _⟩
      · rw [r] at H1 H0 ⊢
        exact br_t (by decide) (H1 ⟨z, (inH q hq).mpr u, Or.inl rfl⟩)
      · rw [r] at H1 H0 ⊢
        rw [cS z' hz']
        exact br_f (nI_pos (by omega)) (br_t rfl ⟨iS z' hz', br_c (fun v => H0 (fun w => (inH z' hz').mp w.2.2 v)) (fun v => H1 ⟨z, (inH q hq).mpr u, (inH z' hz').mpr v⟩)⟩)
    have V1 : (hd || decide (¬ sec p = 0)) = false → ¬ rdo p = 0 → wY_isSafe_292 post (nI q) (sz s) 1 nM nN lc pc de tp hg ek ex ey ez ew hid wld sk sx sy sz sw dp oS hS lab vs es la pa wk aw fd dg st rl ch := by
      intro e z
      rw [e] at H1 H0
      refine br_f (by decide) ⟨iS q hq, ?_⟩
      rw [cS q hq]
      refine br_c (fun u => H0 (fun w => (inO q hq).mp w.2.1 u)) (fun u => ?_)
      rcases r with r | ⟨z', hz', r, _⟩
      · rw [r] at H1 H0 ⊢
        exact br_t (by decide) (H1 ⟨z, (inO q hq).mpr u, Or.inl rfl⟩)
      · rw [r] at H1 H0 ⊢
        rw [cS z' hz']
        exact br_f (nI_pos (by omega)) (br_f (by decide) ⟨iS z' hz', br_c (fun v => H0 (fun w => (inO z' hz').mp w.2.2 v)) (fun v => H1 ⟨z, (inO q hq).mpr u, (inO z' hz').mpr v⟩)⟩)
    refine br_f (by decide) (br_f (by decide) (br_f (by decide) (br_f (by decide) ⟨iE p hp, br_c (fun z => br_t rfl ?_) (fun z => H0 (fun w => z ((he p hp).2.mpr w.1)))⟩)))
    have z' := (he p hp).2.mp z
    cases hd with
    | false => exact br_f sk_t1 ⟨iE p hp, br_c (fun u => V1 (by simp [(he p hp).1.mp u]) z') (fun u => V0 (by simp; exact fun v => u ((he p hp).1.mpr v)) z')⟩
    | true => exact br_t sk_t0 (V0 rfl z')
  · rw [sk_sf_4 k, x2] at H1 H0
    rw [k, x2, cS q hq]
    refine br_f (by decide) (br_f (by decide) (br_f (by decide) (br_t rfl ?_)))
    cases hd with
    | false =>
      rw [inO q hq] at H1 H0
      refine br_f sk_t1 ⟨iS q hq, ?_⟩
      rcases (ih q hq).1.2 with e | e
      · rw [e] at H1 H0 ⊢
        exact ⟨rfl, H0 (fun w => w rfl)⟩
      · rw [e] at H1 H0 ⊢
        exact ⟨rfl, H1 (by decide)⟩
    | true =>
      rw [inH q hq] at H1 H0
      refine br_t sk_t0 ⟨iS q hq, ?_⟩
      rcases (ih q hq).2.2 with e | e
      · rw [e] at H1 H0 ⊢
        exact ⟨rfl, H0 (fun w => w rfl)⟩
      · rw [e] at H1 H0 ⊢
        exact ⟨rfl, H1 (by decide)⟩
  · rw [sk_sf_5 k, x1, x2, cE p hp] at H1 H0
    rw [k, x1, x2, cE p hp, cS q hq]
    refine br_f (by decide) (br_f (by decide) (br_f (by decide) (br_f (by decide) ⟨iE p hp, br_c (fun z => br_f (by decide) ?_) (fun z => H0 (fun w => z ((he p hp).2.mpr w.2.1)))⟩)))
    cases hd with
    | false =>
      rw [inO q hq] at H1 H0
      exact br_f sk_t1 ⟨iE p hp, br_c (fun u => br_f (by decide) ⟨iS q hq, br_c (fun v => H0 (fun w => w.2.2.2 v)) (fun v => H1 ⟨rfl, (he p hp).2.mp z, (he p hp).1.mp u, v⟩)⟩) (fun u => H0 (fun w => u ((he p hp).1.mpr w.2.2.1)))⟩
    | true => exact br_t sk_t0 (H0 (fun w => absurd w.1 (by decide)))
  · rw [sk_sf_6 k, x1, cE p hp] at H1 H0
    rw [k, x1, cE p hp]
    refine br_f (by decide) (br_f (by decide) (br_f (by decide) (br_f (by decide) ⟨iE p hp, br_c (fun z => br_f (by decide) ?_) (fun z => H0 (fun w => z ((he p hp).2.mpr w.2.1)))⟩)))
    cases hd with
    | false => exact br_f sk_t1 ⟨iE p hp, br_c (fun u => br_t rfl (H1 ⟨rfl, (he p hp).2.mp z, (he p hp).1.mp u⟩)) (fun u => H0 (fun w => u ((he p hp).1.mpr w.2.2)))⟩
    | true => exact br_t sk_t0 (H0 (fun w => absurd w.1 (by decide)))
/-- findSafe finds what X holds -/
theorem sk_yfa {post : SY → Prop} (hM : M ≤ 50) (hN : N ≤ 40) (HE : ∀ e, e < M → sk_node ek ex ey ez ew px py pz od e) (HQ : ∀ e, e < M → sk_se lab ek ex px py pz sec rdo e) (HS : ∀ s, s < N → sk_stm M ew sk sx sy sz sw dp s) (HF : ∀ s, s < N → sk_sfe lab sec rdo sk sx sy sz so sh s)
    (H : ∀ hid' wld' oS' hS' : sk_F, (∀ j, j < M → (hid' j = 0 ↔ sec j = 0)) → (∀ j, j < N → (oS' j = 0 ↔ so j = 0)) → post (nI M, nI N, lc, pc, de, tp, hg, ek, ex, ey, ez, ew, hid', wld', sk, sx, sy, sz, sw, dp, oS', hS', lab, vs, es, la, pa, wk, aw, fd, dg, st, rl, ch)) : wpY_findSafe post (nI M, nI N, lc, pc, de, tp, hg, ek, ex, ey, ez, ew, hid, wld, sk, sx, sy, sz, sw, dp, oS, hS, lab, vs, es, la, pa, wk, aw, fd, dg, st, rl, ch) := by
  refine sk_yfs hM HE HQ (fun hid wld he => ?_)
  have L : ∀ (d s : Nat) (oS hS : sk_F), s + d = N → (∀ j, j < s → ((oS j = 0 ↔ so j = 0) ∧ (oS j = 0 ∨ oS j = 1)) ∧ ((hS j = 0 ↔ sh j = 0) ∧ (hS j = 0 ∨ hS j = 1))) → wY_findSafe_6 post (nI M) (nI N) lc pc de tp hg (d + 1) (nI s) ek ex ey ez ew hid wld sk sx sy sz sw dp oS hS lab vs es la pa wk aw fd dg st rl ch := by
    intro d
    induction d with
    | zero =>
      intro s oS hS hd ih
      have : s = N := by omega
      subst this
      exact br_t (nI_le (Nat.le_refl _) (by omega)) (H hid wld oS hS (fun j hj => (he j hj).1) (fun j hj => (ih j hj).1.1))
    | succ d ihd =>
      intro s oS hS hd ih
      have i : vp_in (nI s) 40 := vp_in_nI (by omega) (by omega)
      have c := nI_clamp (show s < 2 ^ 31 by omega)
      have hf := HF s (by omega)
      have G : ∀ f1 f2 : Int32, (f1 = 0 ↔ so s = 0) → (f1 = 0 ∨ f1 = 1) → (f2 = 0 ↔ sh s = 0) → (f2 = 0 ∨ f2 = 1) → wY_findSafe_6 post (nI M) (nI N) lc pc de tp hg (d + 1) (nI (s + 1)) ek ex ey ez ew hid wld sk sx sy sz sw dp ((upd oS s f1)) ((upd hS s f2)) lab vs es la pa wk aw fd dg st rl ch := by
        intro f1 f2 q1 q2 q3 q4
        refine ihd (s + 1) _ _ (by omega) ?_
        intro j hj
        by_cases hjs : j = s
        · subst hjs
          rw [pk_us, pk_us]
          exact ⟨⟨q1, q2⟩, ⟨q3, q4⟩⟩
        · rw [pk_un hjs, pk_un hjs]
          exact ih j (by omega)
      have ih2 : ∀ f1 : Int32, ∀ j, j < s → ((upd oS s f1 j = 0 ↔ so j = 0) ∧ (upd oS s f1 j = 0 ∨ upd oS s f1 j = 1)) ∧ ((hS j = 0 ↔ sh j = 0) ∧ (hS j = 0 ∨ hS j = 1)) := by
        intro f1 j hj
        rw [pk_un (by omega)]
        exact ih j hj
      have S1 : ∀ {x : Int32} {Q : Prop}, (¬ x = 0 ↔ Q) → Q → ((1 : Int32) = 0 ↔ x = 0) := fun h q => ⟨fun z => absurd z (by decide), fun z => absurd z (h.mpr q)⟩
      have S0 : ∀ {x : Int32} {Q : Prop}, (¬ x = 0 ↔ Q) → ¬ Q → ((0 : Int32) = 0 ↔ x = 0) := by
        intro x Q h q
        refine ⟨fun _ => ?_, fun _ => rfl⟩
        by_cases z : x = 0
        · exact z
        · exact absurd (h.mp z) q
      have B : ∀ f1 : Int32, (f1 = 0 ↔ so s = 0) → (f1 = 0 ∨ f1 = 1) → wpY_isSafe (fun r_74 => (vp_in (nI s) 40 ∧ ∀ a : sk_F, a = upd hS (nI s).toNatClampNeg (vp_nar .boolean r_74) → ∀ x1_111 : Int32, x1_111 = nI s + 1 → wY_findSafe_6 post (nI M) (nI N) lc pc de tp hg (d + 1) x1_111 ek ex ey ez ew hid wld sk sx sy sz sw dp ((upd oS s f1)) a lab vs es la pa wk aw fd dg st rl ch)) (nI M, nI N, lc, pc, de, tp, hg, ek, ex, ey, ez, ew, hid, wld, sk, sx, sy, sz, sw, dp, upd oS s f1, hS, lab, vs, es, la, pa, wk, aw, fd, dg, st, rl, ch) (nI s) 0 := by
        intro f1 q1 q2
        exact sk_yis (hd := true) hM (by omega) (HS s (by omega)) he (ih2 f1) (fun q => ⟨i, nm_r (e' := upd hS s 1) (by rw [c, sk_n1]) (nm_r (nI_1 s) (G f1 1 q1 q2 (S1 hf.2 q) (Or.inr rfl)))⟩) (fun q => ⟨i, nm_r (e' := upd hS s 0) (by rw [c, sk_n0]) (nm_r (nI_1 s) (G f1 0 q1 q2 (S0 hf.2 q) (Or.inl rfl)))⟩)
      refine br_f (nI_ge (by omega) (by omega)) ?_
      exact sk_yis (hd := false) hM (by omega) (HS s (by omega)) he ih (fun q => ⟨i, nm_r (e' := upd oS s 1) (by rw [c, sk_n1]) (B 1 (S1 hf.1 q) (Or.inr rfl))⟩) (fun q => ⟨i, nm_r (e' := upd oS s 0) (by rw [c, sk_n0]) (B 0 (S0 hf.1 q) (Or.inl rfl))⟩)
  exact ⟨N + 1, L N 0 oS hS (by omega) (fun j hj => absurd hj (by omega))⟩
end
end
section
/-! 12: express -/
def sk_pw (ew : sk_F) (x : Int32) : Nat := if x = -1 then 0 else sk_w ew x.toNatClampNeg
def sk_is (n : Nat) (x : Int32) : Prop := ∃ j, j < n ∧ x = nI j
def sk_q1 (m : Nat) (x : Int32) : Int32 := if 3 ≤ m then x else -1
def sk_q2 (m : Nat) (y : Int32) : Int32 := if m = 2 ∨ (3 ≤ m ∧ ¬ m = 13) then y else -1
def sk_q3 (m : Nat) (z : Int32) : Int32 := if m = 14 then z else -1
def sk_fit (M m : Nat) (x y z : Int32) : Prop :=
  if m = 0 then True else if m = 1 then sk_is 8 x else if m = 2 then sk_is 2 x ∧ sk_is M y else if m = 13 then sk_is M x else if m = 14 then sk_is M x ∧ sk_is M y ∧ sk_is M z else sk_is M x ∧ sk_is M y
theorem sk_fit_b {M m : Nat} {x y z : Int32} (h : 3 ≤ m) (h2 : m ≤ 12) : sk_fit M m x y z ↔ (sk_is M x ∧ sk_is M y) := by
  unfold sk_fit
  rw [if_neg (by omega), if_neg (by omega), if_neg (by omega), if_neg (by omega), if_neg (by omega)]
/-- the parts that a fitting expression has -/
theorem sk_fit_fl {M m : Nat} {x y z : Int32} (hm : m ≤ 14) (h : sk_fit M m x y z) : sk_fl (3 ≤ m) x (sk_q1 m x) M ∧ sk_fl (m = 2 ∨ (3 ≤ m ∧ ¬ m = 13)) y (sk_q2 m y) M ∧ sk_fl (m = 14) z (sk_q3 m z) M := by
  have hx : 3 ≤ m → sk_is M x := by
    intro h3
    unfold sk_fit at h
    rw [if_neg (by omega), if_neg (by omega), if_neg (by omega)] at h
    by_cases h13 : m = 13
    · rw [if_pos h13] at h
      exact h
    · rw [if_neg h13] at h
      by_cases h14 : m = 14
      · rw [if_pos h14] at h
        exact h.1
      · rw [if_neg h14] at h
        exact h.1
  have hy : (m = 2 ∨ (3 ≤ m ∧ ¬ m = 13)) → sk_is M y := by
    intro h3
    unfold sk_fit at h
    rw [if_neg (by omega), if_neg (by omega)] at h
    by_cases h2 : m = 2
    · rw [if_pos h2] at h
      exact h.2
    · rw [if_neg h2, if_neg (by omega)] at h
      by_cases h14 : m = 14
      · rw [if_pos h14] at h
        exact h.2.1
      · rw [if_neg h14] at h
        exact h.2
  have hz : m = 14 → sk_is M z := by
    intro h14
    subst h14
    exact h.2.2
  refine ⟨⟨fun c => ?_, fun c => if_neg c⟩, ⟨fun c => ?_, fun c => if_neg c⟩, ⟨fun c => ?_, fun c => if_neg c⟩⟩
  · obtain ⟨p, hp, e⟩ := hx c
    exact ⟨p, hp, e, (if_pos c).trans e⟩
  · obtain ⟨p, hp, e⟩ := hy c
    exact ⟨p, hp, e, (if_pos c).trans e⟩
  · obtain ⟨p, hp, e⟩ := hz c
    exact ⟨p, hp, e, (if_pos c).trans e⟩
theorem sk_fl_pt {c : Prop} {x q : Int32} {M : Nat} (h : sk_fl c x q M) : sk_pt q M := by
  by_cases hc : c
  · obtain ⟨p, hp, _, e⟩ := h.1 hc
    exact Or.inr ⟨p, hp, e⟩
  · exact Or.inl (h.2 hc)
theorem sk_is_c {P : Prop} (x : Int32) {n : Nat} (hn : n < 2 ^ 31) (H1 : (h0 : ¬ x < 0) → (h1 : ¬ nI n ≤ x) → sk_is n x → P) (H0 : ¬ sk_is n x → (x < 0 ∨ (¬ x < 0 ∧ nI n ≤ x)) → P) : P := by
  have neg : (x < 0 ∨ nI n ≤ x) → ¬ sk_is n x := by
    intro h w
    obtain ⟨j, hj, e⟩ := w
    rw [e] at h
    rcases h with h | h
    · exact nI_pos (by omega) h
    · exact nI_ge hj hn h
  by_cases h : x < 0
  · exact H0 (neg (Or.inl h)) (Or.inl h)
  · by_cases h2 : nI n ≤ x
    · exact H0 (neg (Or.inr h2)) (Or.inr ⟨h, h2⟩)
    · rcases pk_ix x hn with w | w | w
      · exact absurd w h
      · exact absurd w h2
      · exact H1 h h2 w
section
variable {nM nN pl lc pc : Int32} {M N : Nat} {vs es lab ek ex ey ez px py pz ew od sec rdo sk sx sy sz sw dp so sh la pa vl ps pt pr : sk_F}
theorem sk_xiv {post : Int32 → Prop} {x : Int32} (H1 : sk_is 8 x → post 1) (H0 : ¬ sk_is 8 x → post 0) : wpX_isVariable post x :=
  sk_is_c x (n := 8) (by decide) (fun a b h => br_f a (br_f b (H1 h))) (fun h w => by rcases w with w | ⟨w, v⟩; exact br_t w (H0 h); exact br_f w (br_t v (H0 h)))
theorem sk_xia {post : Int32 → Prop} {x : Int32} (H1 : sk_is 2 x → post 1) (H0 : ¬ sk_is 2 x → post 0) : wpX_isArray post x :=
  sk_is_c x (n := 2) (by decide) (fun a b h => br_f a (br_f b (H1 h))) (fun h w => by rcases w with w | ⟨w, v⟩; exact br_t w (H0 h); exact br_f w (br_t v (H0 h)))
theorem sk_xie {post : Int32 → Prop} {x : Int32} (hM : M ≤ 50) (H1 : sk_is M x → post 1) (H0 : ¬ sk_is M x → post 0) : wpX_isExpression post (nI M, nN, lc, pc, pl, vs, es, lab, ek, ex, px, py, pz, ew, od, sec, rdo, sk, sx, sy, sz, sw, dp, so, sh, la, pa, vl, ps, pt, pr) x :=
  sk_is_c x (n := M) (by omega) (fun a b h => br_f a (br_f b (H1 h))) (fun h w => by rcases w with w | ⟨w, v⟩; exact br_t w (H0 h); exact br_f w (br_t v (H0 h)))
theorem sk_xwp {post : Int32 → Prop} {q : Int32} (hM : M ≤ 50) (hq : sk_pt q M) (hw : ∀ p, p < M → ew p = nI (sk_w ew p)) (H : post (nI (sk_pw ew q))) : wpX_weightOfPart post (nM, nN, lc, pc, pl, vs, es, lab, ek, ex, px, py, pz, ew, od, sec, rdo, sk, sx, sy, sz, sw, dp, so, sh, la, pa, vl, ps, pt, pr) q := by
  by_cases h : q = -1
  · unfold sk_pw at H
    rw [if_pos h] at H
    exact br_t h H
  · unfold sk_pw at H
    rw [if_neg h] at H
    rcases hq with hq | ⟨p, hp, e⟩
    · exact absurd hq h
    · rw [e, nI_clamp (by omega), ← hw p hp] at H
      subst e
      exact br_f h ⟨vp_in_nI (by omega) (by omega), by rw [nI_clamp (by omega)]; exact H⟩
theorem sk_xcl {post : Int32 → SX → Prop} {e p len W : Nat} (he : e < 50) (hp : p < e) (hl : len + W ≤ 30)
    (H : ∀ od' : sk_F, (∀ j, j < 30 * e + len → od' j = od j) → (∀ j, j < W → od' (30 * e + len + j) = od (30 * p + j)) → post (nI (len + W)) (nM, nN, lc, pc, pl, vs, es, lab, ek, ex, px, py, pz, ew, od', sec, rdo, sk, sx, sy, sz, sw, dp, so, sh, la, pa, vl, ps, pt, pr)) :
    ∀ (d i : Nat) (od1 : sk_F), i + d = W → (∀ j, j < 30 * e + len → od1 j = od j) → (∀ j, j < i → od1 (30 * e + len + j) = od (30 * p + j)) → wX_copyOrder_10 post (nI p) (nI e) (nI len) (nI W) nM nN lc pc pl (d + 1) (nI i) vs es lab ek ex px py pz ew od1 sec rdo sk sx sy sz sw dp so sh la pa vl ps pt pr := by
  intro d
  induction d with
  | zero =>
    intro i od1 hi h1 h2
    have : i = W := by omega
    subst this
    exact br_t (nI_le (Nat.le_refl _) (by omega)) (by rw [nI_add]; exact H od1 h1 h2)
  | succ d ih =>
    intro i od1 hi h1 h2
    have e1 : nI p * 30 + nI i = nI (30 * p + i) := sk_30 p i
    have e2 : nI e * 30 + nI len + nI i = nI (30 * e + len + i) := by rw [sk_30, nI_add]
    refine br_f (nI_ge (by omega) (by omega)) ⟨by rw [e1]; exact vp_in_nI (by omega) (by omega), by rw [e2]; exact vp_in_nI (by omega) (by omega), nm_r (e' := upd od1 (30 * e + len + i) (od (30 * p + i))) ?_ (nm_r (nI_1 i) (ih (i + 1) _ (by omega) ?_ ?_))⟩
    · rw [e1, e2, nI_clamp (by omega), nI_clamp (by omega), h1 _ (by omega)]
    · intro j hj
      rw [pk_un (by omega)]
      exact h1 j hj
    · intro j hj
      by_cases hji : j = i
      · subst hji
        exact pk_us
      · rw [pk_un (by omega)]
        exact h2 j (by omega)
/-- copyOrder of a part, or of none -/
theorem sk_xco {post : Int32 → SX → Prop} {e len : Nat} {q : Int32} (he : e < 50) (hq : sk_pt q e) (hw : ∀ p, p < e → ew p = nI (sk_w ew p)) (hl : len + sk_pw ew q ≤ 30)
    (H : ∀ od' : sk_F, (∀ j, j < 30 * e + len → od' j = od j) → (∀ p, p < e → q = nI p → ∀ j, j < sk_w ew p → od' (30 * e + len + j) = od (30 * p + j)) → post (nI (len + sk_pw ew q)) (nM, nN, lc, pc, pl, vs, es, lab, ek, ex, px, py, pz, ew, od', sec, rdo, sk, sx, sy, sz, sw, dp, so, sh, la, pa, vl, ps, pt, pr)) : wpX_copyOrder post (nM, nN, lc, pc, pl, vs, es, lab, ek, ex, px, py, pz, ew, od, sec, rdo, sk, sx, sy, sz, sw, dp, so, sh, la, pa, vl, ps, pt, pr) q (nI e) (nI len) := by
  unfold wpX_copyOrder
  dsimp only
  refine sk_xwp (by omega) hq hw ?_
  by_cases h : q = -1
  · have e0 : sk_pw ew q = 0 := if_pos h
    rw [e0] at H ⊢
    refine ⟨1, br_t (by decide) ?_⟩
    rw [nI_add]
    exact H od (fun _ _ => rfl) (fun p hp e => absurd (e.symm.trans h) (sk_m1 (by omega)))
  · rcases hq with hq | ⟨p, hp, e1⟩
    · exact absurd hq h
    · have e0 : sk_pw ew q = sk_w ew p := by
        unfold sk_pw
        rw [if_neg h, e1, nI_clamp (by omega)]
      rw [e0] at H hl ⊢
      subst e1
      refine ⟨sk_w ew p + 1, sk_xcl he hp hl (fun od' a1 a2 => H od' a1 ?_) (sk_w ew p) 0 od (by omega) (fun _ _ => rfl) (fun j hj => absurd hj (by omega))⟩
      intro p2 hp2 e2 j hj
      have : p = p2 := (nI_eq (by omega) (by omega)).mp e2
      subst this
      exact a2 j hj
theorem sk_xpio {post : SX → Prop} {e : Nat} (he : e < 50) (h1 : sk_pt (px e) e) (h2 : sk_pt (py e) e) (h3 : sk_pt (pz e) e) (hw : ∀ p, p < e → ew p = nI (sk_w ew p)) (hl : sk_pw ew (px e) + sk_pw ew (py e) + sk_pw ew (pz e) ≤ 29)
    (H : ∀ od' : sk_F, (∀ j, j < 30 * e → od' j = od j) → (∀ p, p < e → px e = nI p → ∀ j, j < sk_w ew p → od' (30 * e + 0 + j) = od' (30 * p + j)) → (∀ p, p < e → py e = nI p → ∀ j, j < sk_w ew p → od' (30 * e + sk_pw ew (px e) + j) = od' (30 * p + j)) → (∀ p, p < e → pz e = nI p → ∀ j, j < sk_w ew p → od' (30 * e + (sk_pw ew (px e) + sk_pw ew (py e)) + j) = od' (30 * p + j)) → od' (30 * e + (sk_pw ew (px e) + sk_pw ew (py e) + sk_pw ew (pz e))) = nI e →
      post (nM, nN, lc, pc, pl, vs, es, lab, ek, ex, px, py, pz, upd ew e (nI (sk_pw ew (px e) + sk_pw ew (py e) + sk_pw ew (pz e) + 1)), od', sec, rdo, sk, sx, sy, sz, sw, dp, so, sh, la, pa, vl, ps, pt, pr)) : wpX_putInOrder post (nM, nN, lc, pc, pl, vs, es, lab, ek, ex, px, py, pz, ew, od, sec, rdo, sk, sx, sy, sz, sw, dp, so, sh, la, pa, vl, ps, pt, pr) (nI e) := by
  have i : vp_in (nI e) 50 := vp_in_nI he (by omega)
  have c := nI_clamp (show e < 2 ^ 31 by omega)
  unfold wpX_putInOrder
  rw [c]
  refine ⟨i, sk_xco (len := 0) he h1 hw (by omega) (fun od1 a1 b1 => ⟨i, ?_⟩)⟩
  refine sk_xco he h2 hw (by omega) (fun od2 a2 b2 => ⟨i, ?_⟩)
  refine sk_xco he h3 hw (by omega) (fun od3 a3 b3 => ?_)
  rw [Nat.zero_add] at a2 b2 a3 b3 ⊢
  generalize hA : sk_pw ew (px e) = A at *
  generalize hB : sk_pw ew (py e) = B at *
  generalize hC : sk_pw ew (pz e) = C at *
  have wA : ∀ p, p < e → px e = nI p → sk_w ew p = A := by
    intro p hp e1
    rw [← hA]
    unfold sk_pw
    rw [e1, if_neg (sk_m1 (by omega)), nI_clamp (by omega)]
  have wB : ∀ p, p < e → py e = nI p → sk_w ew p = B := by
    intro p hp e1
    rw [← hB]
    unfold sk_pw
    rw [e1, if_neg (sk_m1 (by omega)), nI_clamp (by omega)]
  have wC : ∀ p, p < e → pz e = nI p → sk_w ew p = C := by
    intro p hp e1
    rw [← hC]
    unfold sk_pw
    rw [e1, if_neg (sk_m1 (by omega)), nI_clamp (by omega)]
  have e3 : nI e * 30 + nI (A + B + C) = nI (30 * e + (A + B + C)) := sk_30 e _
  have w30 : ∀ p, p < e → ∀ j, j < 30 → 30 * p + j < 30 * e := by
    intro p hp j hj
    omega
  refine ⟨by rw [e3]; exact vp_in_nI (by omega) (by omega), nm_r (e' := upd od3 (30 * e + (A + B + C)) (nI e)) (by rw [e3, nI_clamp (by omega)]) ⟨i, nm_r (e' := upd ew e (nI (A + B + C + 1))) (by rw [nI_1]) (H _ ?_ ?_ ?_ ?_ pk_us)⟩⟩
  · intro j hj
    rw [pk_un (by omega), a3 j (by omega), a2 j (by omega), a1 j (by omega)]
  · intro p hp e1 j hj
    have := wA p hp e1
    have := w30 p hp j (by omega)
    rw [pk_un (by omega), pk_un (by omega), a3 _ (by omega), a2 _ (by omega), b1 p hp e1 j hj, a3 _ (by omega), a2 _ (by omega), a1 _ (by omega)]
  · intro p hp e1 j hj
    have := wB p hp e1
    have := w30 p hp j (by omega)
    rw [pk_un (by omega), pk_un (by omega), a3 _ (by omega), b2 p hp e1 j hj, a3 _ (by omega), a2 _ (by omega)]
  · intro p hp e1 j hj
    have := wC p hp e1
    have := w30 p hp j (by omega)
    rw [pk_un (by omega), pk_un (by omega), b3 p hp e1 j hj, a3 _ (by omega)]
/-- express behind its tests -/
theorem sk_x78 {post : Int32 → SX → Prop} {k x q1 q2 q3 : Int32} (hM : M < 50) (h1 : sk_pt q1 M) (h2 : sk_pt q2 M) (h3 : sk_pt q3 M) (hw : ∀ p, p < M → ew p = nI (sk_w ew p)) (hw30 : ∀ p, p < M → sk_w ew p ≤ 30)
    (HF : 30 < (sk_pw ew q1 + sk_pw ew q2 + sk_pw ew q3 + 1) → post (-2) (nI M, nN, lc, pc, pl, vs, es, lab, ek, ex, px, py, pz, ew, od, sec, rdo, sk, sx, sy, sz, sw, dp, so, sh, la, pa, vl, ps, pt, pr))
    (HN : (sk_pw ew q1 + sk_pw ew q2 + sk_pw ew q3 + 1) ≤ 30 → ∀ od' : sk_F, (∀ j, j < 30 * M → od' j = od j) → (∀ p, p < M → q1 = nI p → ∀ j, j < sk_w ew p → od' (30 * M + 0 + j) = od' (30 * p + j)) → (∀ p, p < M → q2 = nI p → ∀ j, j < sk_w ew p → od' (30 * M + sk_pw ew q1 + j) = od' (30 * p + j)) → (∀ p, p < M → q3 = nI p → ∀ j, j < sk_w ew p → od' (30 * M + (sk_pw ew q1 + sk_pw ew q2) + j) = od' (30 * p + j)) → od' (30 * M + (sk_pw ew q1 + sk_pw ew q2 + sk_pw ew q3)) = nI M → sk_node (upd ek M k) (upd ex M x) ey ez (upd ew M (nI (sk_pw ew q1 + sk_pw ew q2 + sk_pw ew q3 + 1))) (upd px M q1) (upd py M q2) (upd pz M q3) od' M)
    (HO : (sk_pw ew q1 + sk_pw ew q2 + sk_pw ew q3 + 1) ≤ 30 → ∀ od' sec' rdo' : sk_F, (∀ j, j < 30 * M → od' j = od j) → (∀ p, p < M → q1 = nI p → ∀ j, j < sk_w ew p → od' (30 * M + 0 + j) = od' (30 * p + j)) → (∀ p, p < M → q2 = nI p → ∀ j, j < sk_w ew p → od' (30 * M + sk_pw ew q1 + j) = od' (30 * p + j)) → (∀ p, p < M → q3 = nI p → ∀ j, j < sk_w ew p → od' (30 * M + (sk_pw ew q1 + sk_pw ew q2) + j) = od' (30 * p + j)) → od' (30 * M + (sk_pw ew q1 + sk_pw ew q2 + sk_pw ew q3)) = nI M → (∀ j, ¬ j = M → sec' j = sec j ∧ rdo' j = rdo j) → sk_se lab (upd ek M k) (upd ex M x) (upd px M q1) (upd py M q2) (upd pz M q3) sec' rdo' M → post (nI M) (nI (M + 1), nN, lc, pc, pl, vs, es, lab, upd ek M k, upd ex M x, upd px M q1, upd py M q2, upd pz M q3, upd ew M (nI (sk_pw ew q1 + sk_pw ew q2 + sk_pw ew q3 + 1)), od', sec', rdo', sk, sx, sy, sz, sw, dp, so, sh, la, pa, vl, ps, pt, pr)) : wX_express_78 post k x q1 q2 q3 (nI M) nN lc pc pl vs es lab ek ex px py pz ew od sec rdo sk sx sy sz sw dp so sh la pa vl ps pt pr := by
  have i : vp_in (nI M) 50 := vp_in_nI hM (by omega)
  have c := nI_clamp (show M < 2 ^ 31 by omega)
  have b30 : ∀ q, sk_pt q M → sk_pw ew q ≤ 30 := by
    intro q hq
    unfold sk_pw
    by_cases h : q = -1
    · rw [if_pos h]; omega
    · rw [if_neg h]
      rcases hq with hq | ⟨p, hp, e⟩
      · exact absurd hq h
      · rw [e, nI_clamp (by omega)]
        exact hw30 p hp
  have b1 := b30 q1 h1
  have b2 := b30 q2 h2
  have b3 := b30 q3 h3
  unfold wX_express_78
  refine sk_xwp (by omega) h1 hw (sk_xwp (by omega) h2 hw (sk_xwp (by omega) h3 hw ?_))
  have es : 1 + nI (sk_pw ew q1) + nI (sk_pw ew q2) + nI (sk_pw ew q3) = nI (sk_pw ew q1 + sk_pw ew q2 + sk_pw ew q3 + 1) := by
    rw [show (1 : Int32) = nI 1 from rfl, nI_add, nI_add, nI_add]
    congr 1
    omega
  rw [es]
  refine pk_le (sk_pw ew q1 + sk_pw ew q2 + sk_pw ew q3 + 1) 30 (fun hle => nm_r (nI_1 M) ?_) HF
  rw [c]
  refine ⟨i, nm_e ⟨i, nm_e ⟨i, nm_e ⟨i, nm_e ⟨i, nm_e ?_⟩⟩⟩⟩⟩
  refine sk_xpio hM (by rw [pk_us]; exact h1) (by rw [pk_us]; exact h2) (by rw [pk_us]; exact h3) hw (by rw [pk_us, pk_us, pk_us]; omega) ?_
  rw [pk_us, pk_us, pk_us]
  intro od' o1 o2 o3 o4 o5
  refine sk_xje hM (HN hle od' o1 o2 o3 o4 o5) (fun sec' rdo' g1 g2 => HO hle od' sec' rdo' o1 o2 o3 o4 o5 g1 g2)
theorem sk_xfit {post : Int32 → Prop} {m : Nat} {x y z : Int32} (hM : M ≤ 50) (hm : m ≤ 14) (H1 : sk_fit M m x y z → post 1) (H0 : ¬ sk_fit M m x y z → post 0) : wpX_expressionFits post (nI M, nN, lc, pc, pl, vs, es, lab, ek, ex, px, py, pz, ew, od, sec, rdo, sk, sx, sy, sz, sw, dp, so, sh, la, pa, vl, ps, pt, pr) (nI m) x y z := by
  by_cases hb : 3 ≤ m ∧ m ≤ 12
  · rw [sk_fit_b hb.1 hb.2] at H1 H0
    have z : ∀ j : Nat, j < 20 → j ≠ m → ¬ nI m = nI j := fun j hj hn he => hn ((nI_eq (by omega) (by omega)).mp he).symm
    have V : wX_expressionFits_141 post x y (nI M) nN lc pc pl vs es lab ek ex px py pz ew od sec rdo sk sx sy sz sw dp so sh la pa vl ps pt pr := by
      unfold wX_expressionFits_141
      exact sk_xie hM (fun a => br_f (by decide) (sk_xie hM (fun b => br_f (by decide) (H1 ⟨a, b⟩)) (fun b => br_t rfl (H0 (fun w => b w.2))))) (fun a => br_t rfl (H0 (fun w => a w.1)))
    exact br_f (nI_pos (by omega)) (br_f (nI_nlt (a := 14) (by omega) (by decide)) (br_f (z 0 (by omega) (by omega)) (br_f (z 1 (by omega) (by omega)) (br_f (z 2 (by omega) (by omega)) (br_c (fun _ => V) (fun _ => br_c (fun _ => V) (fun _ => br_c (fun _ => V) (fun _ => br_c (fun _ => V) (fun _ => br_c (fun _ => V) (fun _ => br_c (fun _ => V) (fun _ => br_c (fun _ => V) (fun _ => br_c (fun _ => V) (fun _ => br_c (fun _ => V) (fun _ => br_c (fun _ => V) (fun _ => br_f (z 13 (by omega) (by omega)) (br_f (z 14 (by omega) (by omega)) trivial))))))))))))))))
  · have hm2 : m = 0 ∨ m = 1 ∨ m = 2 ∨ m = 13 ∨ m = 14 := by omega
    rcases hm2 with rfl | rfl | rfl | rfl | rfl
    · exact br_f (by decide) (br_f (by decide) (br_t rfl (H1 trivial)))
    · exact br_f (by decide) (br_f (by decide) (br_f (by decide) (br_t rfl (sk_xiv (fun a => ⟨rfl, H1 a⟩) (fun a => ⟨rfl, H0 a⟩)))))
    · exact br_f (by decide) (br_f (by decide) (br_f (by decide) (br_f (by decide) (br_t rfl (sk_xia (fun a => br_f (by decide) (sk_xie hM (fun b => br_f (by decide) (H1 ⟨a, b⟩)) (fun b => br_t rfl (H0 (fun w => b w.2))))) (fun a => br_t rfl (H0 (fun w => a w.1))))))))
    · exact br_f (by decide) (br_f (by decide) (br_f (by decide) (br_f (by decide) (br_f (by decide) (br_f (by decide) (br_f (by decide) (br_f (by decide) (br_f (by decide) (br_f (by decide) (br_f (by decide) (br_f (by decide) (br_f (by decide) (br_f (by decide) (br_f (by decide) (br_t rfl (sk_xie hM (fun a => ⟨rfl, H1 a⟩) (fun a => ⟨rfl, H0 a⟩)))))))))))))))))
    · exact br_f (by decide) (br_f (by decide) (br_f (by decide) (br_f (by decide) (br_f (by decide) (br_f (by decide) (br_f (by decide) (br_f (by decide) (br_f (by decide) (br_f (by decide) (br_f (by decide) (br_f (by decide) (br_f (by decide) (br_f (by decide) (br_f (by decide) (br_f (by decide) (br_t rfl (sk_xie hM (fun a => br_f (by decide) (sk_xie hM (fun b => br_f (by decide) (sk_xie hM (fun d => br_f (by decide) (H1 ⟨a, b, d⟩)) (fun d => br_t rfl (H0 (fun w => d w.2.2))))) (fun b => br_t rfl (H0 (fun w => b w.2.1))))) (fun a => br_t rfl (H0 (fun w => a w.1))))))))))))))))))))
/-- X's express, up to the making -/
theorem sk_xexp {post : Int32 → SX → Prop} {m : Nat} {x y z : Int32} (hM : M < 50) (hm : m ≤ 14) (H0 : ¬ sk_fit M m x y z → post (-1) (nI M, nN, lc, pc, pl, vs, es, lab, ek, ex, px, py, pz, ew, od, sec, rdo, sk, sx, sy, sz, sw, dp, so, sh, la, pa, vl, ps, pt, pr)) (H1 : sk_fit M m x y z → wX_express_78 post (nI m) x (sk_q1 m x) (sk_q2 m y) (sk_q3 m z) (nI M) nN lc pc pl vs es lab ek ex px py pz ew od sec rdo sk sx sy sz sw dp so sh la pa vl ps pt pr) : wpX_express post (nI M, nN, lc, pc, pl, vs, es, lab, ek, ex, px, py, pz, ew, od, sec, rdo, sk, sx, sy, sz, sw, dp, so, sh, la, pa, vl, ps, pt, pr) (nI m) x y z := by
  refine br_t (nI_lt (b := 50) hM (by decide)) (br_f (nI_pos (by omega)) (br_f (nI_nlt (a := 14) hm (by decide)) ?_))
  refine sk_xfit (by omega) hm (fun a => br_f (by decide) ?_) (fun a => br_t rfl (H0 a))
  have G := H1 a
  have G64 : ∀ q, wX_express_78 post (nI m) x q (sk_q2 m y) (sk_q3 m z) (nI M) nN lc pc pl vs es lab ek ex px py pz ew od sec rdo sk sx sy sz sw dp so sh la pa vl ps pt pr → wX_express_64 post (nI m) x z q (sk_q2 m y) (nI M) nN lc pc pl vs es lab ek ex px py pz ew od sec rdo sk sx sy sz sw dp so sh la pa vl ps pt pr := by
    intro q g
    unfold sk_q3 at g
    by_cases h14 : m = 14
    · rw [if_pos h14] at g
      subst h14
      exact br_t rfl g
    · rw [if_neg h14] at g
      exact br_f (fun w => h14 ((nI_eq (by omega) (by omega)).mp w)) g
  have G46 : ∀ q, wX_express_78 post (nI m) x q (sk_q2 m y) (sk_q3 m z) (nI M) nN lc pc pl vs es lab ek ex px py pz ew od sec rdo sk sx sy sz sw dp so sh la pa vl ps pt pr → wX_express_46 post (nI m) x y z q (nI M) nN lc pc pl vs es lab ek ex px py pz ew od sec rdo sk sx sy sz sw dp so sh la pa vl ps pt pr := by
    intro q g
    have g2 := G64 q g
    unfold sk_q2 at g2
    by_cases h2 : m < 2
    · rw [if_neg (by omega)] at g2
      exact br_t (nI_lt (b := 2) h2 (by decide)) g2
    · by_cases h13 : m = 13
      · rw [if_neg (by omega)] at g2
        exact br_f (nI_nlt (b := 2) (by omega) (by omega)) (br_t (by rw [h13]; rfl) g2)
      · rw [if_pos (by omega)] at g2
        exact br_f (nI_nlt (b := 2) (by omega) (by omega)) (br_f (fun w => h13 ((nI_eq (b := 13) (by omega) (by omega)).mp w)) g2)
  by_cases h3 : 3 ≤ m
  · unfold sk_q1 at G
    rw [if_pos h3] at G
    exact br_f (nI_nlt (b := 3) h3 (by omega)) (G46 x G)
  · unfold sk_q1 at G
    rw [if_neg h3] at G
    exact br_t (nI_lt (b := 3) (by omega) (by decide)) (G46 (-1) G)
end
section
variable {nN lc pc de tp hg : Int32} {M N : Nat} {vs es lab ek ex ey ez ew hid wld sk sx sy sz sw dp oS hS la pa wk aw fd dg st rl ch : sk_F}
theorem sk_yie {post : Int32 → Prop} {x : Int32} (hM : M ≤ 50) (H1 : sk_is M x → post 1) (H0 : ¬ sk_is M x → post 0) : wpY_isExpression post (nI M, nN, lc, pc, de, tp, hg, ek, ex, ey, ez, ew, hid, wld, sk, sx, sy, sz, sw, dp, oS, hS, lab, vs, es, la, pa, wk, aw, fd, dg, st, rl, ch) x :=
  sk_is_c x (n := M) (by omega) (fun a b h => br_f a (br_f b (H1 h))) (fun h w => by rcases w with w | ⟨w, v⟩; exact br_t w (H0 h); exact br_f w (br_t v (H0 h)))
theorem sk_yin {post : Int32 → Prop} {x p2 : Int32} {n : Nat} {nM : Int32} (hn : n < 100) (e2 : p2 = nI n) (H1 : sk_is (n + 1) x → post 1) (H0 : ¬ sk_is (n + 1) x → post 0) : wpY_in post (nM, nN, lc, pc, de, tp, hg, ek, ex, ey, ez, ew, hid, wld, sk, sx, sy, sz, sw, dp, oS, hS, lab, vs, es, la, pa, wk, aw, fd, dg, st, rl, ch) x 0 p2 := by
  subst e2
  have q : ∀ h : ¬ x < 0, (nI n < x ↔ nI (n + 1) ≤ x) := by
    intro h
    obtain ⟨j, hj, e⟩ := nI_of h
    rw [e, nI_ltI (by omega) hj, nI_leI (by omega) hj]
    omega
  exact sk_is_c x (n := n + 1) (by omega) (fun a b h => br_f a (br_f (fun w => b ((q a).mp w)) (H1 h))) (fun h w => by rcases w with w | ⟨w, v⟩; exact br_t w (H0 h); exact br_f w (br_t ((q w).mpr v) (H0 h)))
/-- Y's express behind its tests -/
theorem sk_y105 {post : Int32 → SY → Prop} {m : Nat} {x y z : Int32} (hM : M < 50) (hm : m ≤ 14) (hfit : sk_fit M m x y z) (hw : ∀ p, p < M → ew p = nI (sk_w ew p)) (hw30 : ∀ p, p < M → sk_w ew p ≤ 30)
    (HF : 30 < (sk_pw ew (sk_q1 m x) + sk_pw ew (sk_q2 m y) + sk_pw ew (sk_q3 m z) + 1) → post (-2) (nI M, nN, lc, pc, de, tp, hg, ek, ex, ey, ez, ew, hid, wld, sk, sx, sy, sz, sw, dp, oS, hS, lab, vs, es, la, pa, wk, aw, fd, dg, st, rl, ch)) (HO : (sk_pw ew (sk_q1 m x) + sk_pw ew (sk_q2 m y) + sk_pw ew (sk_q3 m z) + 1) ≤ 30 → post (nI M) (nI (M + 1), nN, lc, pc, de, tp, hg, upd ek M (nI m), upd ex M x, upd ey M y, upd ez M z, upd ew M (nI (sk_pw ew (sk_q1 m x) + sk_pw ew (sk_q2 m y) + sk_pw ew (sk_q3 m z) + 1)), hid, wld, sk, sx, sy, sz, sw, dp, oS, hS, lab, vs, es, la, pa, wk, aw, fd, dg, st, rl, ch)) : wY_express_105 post (nI m) x y z (nI M) nN lc pc de tp hg ek ex ey ez ew hid wld sk sx sy sz sw dp oS hS lab vs es la pa wk aw fd dg st rl ch := by
  have i : vp_in (nI M) 50 := vp_in_nI hM (by omega)
  have c := nI_clamp (show M < 2 ^ 31 by omega)
  obtain ⟨f1, f2, f3⟩ := sk_fit_fl hm hfit
  have P1 : ∀ {cc : Prop} {a q : Int32}, sk_fl cc a q M → cc → vp_in a 50 ∧ ew a.toNatClampNeg = nI (sk_pw ew q) ∧ sk_pw ew q ≤ 30 := by
    intro cc a q h hc
    obtain ⟨p, hp, e1, e2⟩ := h.1 hc
    unfold sk_pw
    rw [e1, e2, if_neg (sk_m1 (by omega)), nI_clamp (by omega)]
    exact ⟨vp_in_nI (by omega) (by omega), hw p hp, hw30 p hp⟩
  have P0 : ∀ {cc : Prop} {a q : Int32}, sk_fl cc a q M → ¬ cc → sk_pw ew q = 0 := by
    intro cc a q h hc
    exact if_pos (h.2 hc)
  have B : ∀ {cc : Prop} {a q : Int32}, sk_fl cc a q M → sk_pw ew q ≤ 30 := by
    intro cc a q h
    by_cases hc : cc
    · exact (P1 h hc).2.2
    · rw [P0 h hc]; omega
  have b1 := B f1
  have b2 := B f2
  have b3 := B f3
  have H161 : ∀ z0 z1 : Int32, z1 + z0 = nI (sk_pw ew (sk_q1 m x) + sk_pw ew (sk_q2 m y) + sk_pw ew (sk_q3 m z) + 1) → wY_express_161 post (nI m) x y z z0 z1 (nI M) nN lc pc de tp hg ek ex ey ez ew hid wld sk sx sy sz sw dp oS hS lab vs es la pa wk aw fd dg st rl ch := by
    intro z0 z1 ez
    unfold wY_express_161
    rw [c]
    exact nm_r ez (pk_le (sk_pw ew (sk_q1 m x) + sk_pw ew (sk_q2 m y) + sk_pw ew (sk_q3 m z) + 1) 30 (fun h => ⟨i, nm_e ⟨i, nm_e ⟨i, nm_e ⟨i, nm_e ⟨i, nm_e (nm_r (nI_1 M) (by rw [nI_pred]; exact HO h))⟩⟩⟩⟩⟩) HF)
  have H143 : ∀ z0 z1 : Int32, z1 + z0 = nI (sk_pw ew (sk_q1 m x) + sk_pw ew (sk_q2 m y) + 1) → wY_express_143 post (nI m) x y z z0 z1 (nI M) nN lc pc de tp hg ek ex ey ez ew hid wld sk sx sy sz sw dp oS hS lab vs es la pa wk aw fd dg st rl ch := by
    intro z0 z1 ez
    unfold wY_express_143
    rw [ez]
    by_cases h14 : m = 14
    · obtain ⟨g1, g2, _⟩ := P1 f3 h14
      refine br_t (by rw [h14]; rfl) ⟨g1, H161 _ _ ?_⟩
      rw [g2, nI_add]
      congr 1
      omega
    · refine br_f (fun w => h14 ((nI_eq (b := 14) (by omega) (by omega)).mp w)) (H161 _ _ ?_)
      rw [show (0 : Int32) = nI 0 from rfl, nI_add, P0 f3 h14]
  have hY : (nI m = 2 ∨ (¬ nI m < 3 ∧ ¬ nI m = 13)) ↔ (m = 2 ∨ (3 ≤ m ∧ ¬ m = 13)) := by
    rw [show (2 : Int32) = nI 2 from rfl, show (3 : Int32) = nI 3 from rfl, show (13 : Int32) = nI 13 from rfl, nI_eq (by omega) (by omega), nI_eq (by omega) (by omega), nI_ltI (by omega) (by omega)]
    omega
  have H124 : ∀ z0 z1 : Int32, z1 + z0 = nI (sk_pw ew (sk_q1 m x) + 1) → wY_express_124 post (nI m) x y z z0 z1 (nI M) nN lc pc de tp hg ek ex ey ez ew hid wld sk sx sy sz sw dp oS hS lab vs es la pa wk aw fd dg st rl ch := by
    intro z0 z1 ez
    unfold wY_express_124
    rw [ez]
    refine sk_yhy (fun h => br_f (by decide) ?_) (fun h => br_t rfl ?_)
    · obtain ⟨g1, g2, _⟩ := P1 f2 (hY.mp h)
      refine ⟨g1, H143 _ _ ?_⟩
      rw [g2, nI_add]
      congr 1
      omega
    · refine H143 _ _ ?_
      rw [show (0 : Int32) = nI 0 from rfl, nI_add, P0 f2 (fun w => h (hY.mpr w))]
  unfold wY_express_105
  by_cases h3 : 3 ≤ m
  · obtain ⟨g1, g2, _⟩ := P1 f1 h3
    refine br_f (nI_nlt (b := 3) h3 (by omega)) (br_f (by decide) ⟨g1, H124 _ _ ?_⟩)
    rw [g2, show (1 : Int32) = nI 1 from rfl, nI_add, Nat.add_comm]
  · refine br_t (nI_lt (b := 3) (by omega) (by decide)) (br_t rfl (H124 _ _ ?_))
    rw [P0 f1 h3]
    rfl
/-- Y's express -/
theorem sk_yexp {post : Int32 → SY → Prop} {m : Nat} {x y z : Int32} (hM : M < 50) (hm : m ≤ 14) (H0 : ¬ sk_fit M m x y z → post (-1) (nI M, nN, lc, pc, de, tp, hg, ek, ex, ey, ez, ew, hid, wld, sk, sx, sy, sz, sw, dp, oS, hS, lab, vs, es, la, pa, wk, aw, fd, dg, st, rl, ch)) (H1 : sk_fit M m x y z → wY_express_105 post (nI m) x y z (nI M) nN lc pc de tp hg ek ex ey ez ew hid wld sk sx sy sz sw dp oS hS lab vs es la pa wk aw fd dg st rl ch) : wpY_express post (nI M, nN, lc, pc, de, tp, hg, ek, ex, ey, ez, ew, hid, wld, sk, sx, sy, sz, sw, dp, oS, hS, lab, vs, es, la, pa, wk, aw, fd, dg, st, rl, ch) (nI m) x y z := by
  have zz : ∀ j : Nat, j < 20 → j ≠ m → ¬ nI m = nI j := fun j hj hn he => hn ((nI_eq (by omega) (by omega)).mp he).symm
  have hM2 : M ≤ 50 := by omega
  refine br_f (fun w => absurd ((nI_eq (b := 50) (by omega) (by omega)).mp w) (by omega)) ?_
  unfold wY_express_39 wY_express_56 wY_express_72 wY_express_88
  refine sk_yin (n := 14) (by omega) rfl (fun _ => br_f (by decide) ?_) (fun w => absurd ⟨m, by omega, rfl⟩ w)
  by_cases hb : 3 ≤ m ∧ m ≤ 12
  · rw [sk_fit_b hb.1 hb.2] at H1 H0
    exact br_f (zz 1 (by omega) (by omega)) (br_f (zz 2 (by omega) (by omega)) (br_f (nI_nlt (b := 3) hb.1 (by omega)) (br_f (by decide) (sk_yie hM2 (fun a => br_f (by decide) (sk_yhy (fun _ => br_f (by decide) (sk_yie hM2 (fun b => br_f (by decide) (br_f (zz 14 (by omega) (by omega)) (H1 ⟨a, b⟩))) (fun b => br_t rfl (H0 (fun w => b w.2))))) (fun w => absurd (Or.inr ⟨nI_nlt (b := 3) hb.1 (by omega), zz 13 (by omega) (by omega)⟩) w))) (fun a => br_t rfl (H0 (fun w => a w.1)))))))
  · have hm2 : m = 0 ∨ m = 1 ∨ m = 2 ∨ m = 13 ∨ m = 14 := by omega
    rcases hm2 with rfl | rfl | rfl | rfl | rfl
    · exact br_f (by decide) (br_f (by decide) (br_t (by decide) (br_t rfl (sk_yhy (fun w => absurd w (by decide)) (fun _ => br_t rfl (br_f (by decide) (H1 trivial)))))))
    · exact br_t rfl (sk_yin (n := 7) (by omega) rfl (fun a => br_f (by decide) (br_f (by decide) (br_t (by decide) (br_t rfl (sk_yhy (fun w => absurd w (by decide)) (fun _ => br_t rfl (br_f (by decide) (H1 a)))))))) (fun a => br_t rfl (H0 a)))
    · exact br_f (by decide) (br_t rfl (sk_yin (n := 1) (by omega) rfl (fun a => br_f (by decide) (br_t (by decide) (br_t rfl (sk_yhy (fun _ => br_f (by decide) (sk_yie hM2 (fun b => br_f (by decide) (br_f (by decide) (H1 ⟨a, b⟩))) (fun b => br_t rfl (H0 (fun w => b w.2))))) (fun w => absurd (by decide) w))))) (fun a => br_t rfl (H0 (fun w => a w.1)))))
    · exact br_f (by decide) (br_f (by decide) (br_f (by decide) (br_f (by decide) (sk_yie hM2 (fun a => br_f (by decide) (sk_yhy (fun w => absurd w (by decide)) (fun _ => br_t rfl (br_f (by decide) (H1 a))))) (fun a => br_t rfl (H0 a))))))
    · exact br_f (by decide) (br_f (by decide) (br_f (by decide) (br_f (by decide) (sk_yie hM2 (fun a => br_f (by decide) (sk_yhy (fun _ => br_f (by decide) (sk_yie hM2 (fun b => br_f (by decide) (br_t rfl (sk_yie hM2 (fun d => br_f (by decide) (H1 ⟨a, b, d⟩)) (fun d => br_t rfl (H0 (fun w => d w.2.2)))))) (fun b => br_t rfl (H0 (fun w => b w.2.1))))) (fun w => absurd (by decide) w))) (fun a => br_t rfl (H0 (fun w => a w.1)))))))
end
end
section
/-! 13: state, label, and what is new -/
/-- what a fitting statement is made of, its weight and its loops -/
def sk_sp (M N : Nat) (ew sw dp : sk_F) (m : Nat) (x y z : Int32) (W D : Nat) : Prop :=
  (m = 0 ∧ ∃ v p, v < 8 ∧ p < M ∧ x = nI v ∧ y = nI p ∧ W = 1 + sk_w ew p ∧ D = 0)
  ∨ (m = 1 ∧ ∃ a p q, a < 2 ∧ p < M ∧ q < M ∧ x = nI a ∧ y = nI p ∧ z = nI q ∧ W = 1 + sk_w ew p + sk_w ew q ∧ D = 0)
  ∨ (m = 2 ∧ ∃ p q, p < N ∧ q < N ∧ x = nI p ∧ y = nI q ∧ W = 1 + sk_w sw p + sk_w sw q ∧ D = max (sk_w dp p) (sk_w dp q))
  ∨ (m = 3 ∧ ∃ p q, p < M ∧ q < N ∧ x = nI p ∧ y = nI q ∧ ((z = -1 ∧ W = 1 + sk_w ew p + sk_w sw q ∧ D = sk_w dp q) ∨ ∃ r, r < N ∧ z = nI r ∧ W = 1 + sk_w ew p + sk_w sw q + sk_w sw r ∧ D = max (sk_w dp q) (sk_w dp r)))
  ∨ (m = 4 ∧ ∃ t q, 1 ≤ t ∧ t ≤ 6 ∧ q < N ∧ x = nI t ∧ y = nI q ∧ W = 1 + sk_w sw q ∧ D = 1 + sk_w dp q)
  ∨ (m = 5 ∧ ∃ p q, p < M ∧ q < N ∧ x = nI p ∧ y = nI q ∧ W = 1 + sk_w ew p + sk_w sw q ∧ D = 1 + sk_w dp q)
  ∨ (m = 6 ∧ ∃ p, p < M ∧ x = nI p ∧ W = 1 + sk_w ew p ∧ D = 0)
theorem sk_is4 (x : Int32) : (¬ x < 1 ∧ ¬ 6 < x) ↔ ∃ t : Nat, 1 ≤ t ∧ t ≤ 6 ∧ x = nI t := by
  constructor
  · intro h
    rcases pk_ix x (n := 7) (by decide) with w | w | ⟨j, hj, e⟩
    · exact absurd (Int32.lt_trans w (by decide)) h.1
    · exact absurd (Int32.lt_of_lt_of_le (by decide) w) h.2
    · refine ⟨j, ?_, by omega, e⟩
      by_cases h1 : 1 ≤ j
      · exact h1
      · rw [e] at h
        exact absurd (nI_lt (b := 1) (by omega) (by decide)) h.1
  · intro h
    obtain ⟨t, h1, h2, e⟩ := h
    rw [e]
    exact ⟨nI_nlt (b := 1) h1 (by omega), nI_nlt (a := 6) h2 (by decide)⟩
section
variable {M N : Nat} {ew sw dp : sk_F} {x y z : Int32} {W D : Nat}
theorem sk_sp_0 (h : ∃ W D, sk_sp M N ew sw dp 0 x y z W D) : sk_is 8 x ∧ sk_is M y := by
  obtain ⟨W, D, h⟩ := h
  rcases h with ⟨_, v, p, hv, hp, e1, e2, _⟩ | ⟨k, _⟩ | ⟨k, _⟩ | ⟨k, _⟩ | ⟨k, _⟩ | ⟨k, _⟩ | ⟨k, _⟩
  · exact ⟨⟨v, hv, e1⟩, ⟨p, hp, e2⟩⟩
  · exact absurd k (by decide)
  · exact absurd k (by decide)
  · exact absurd k (by decide)
  · exact absurd k (by decide)
  · exact absurd k (by decide)
  · exact absurd k (by decide)
theorem sk_sq_0 (h : sk_is 8 x ∧ sk_is M y) : ∃ W D, sk_sp M N ew sw dp 0 x y z W D := by
  obtain ⟨⟨v, hv, e1⟩, ⟨p, hp, e2⟩⟩ := h
  exact ⟨_, _, Or.inl ⟨rfl, v, p, hv, hp, e1, e2, rfl, rfl⟩⟩
theorem sk_sp_1 (h : ∃ W D, sk_sp M N ew sw dp 1 x y z W D) : sk_is 2 x ∧ sk_is M y ∧ sk_is M z := by
  obtain ⟨W, D, h⟩ := h
  rcases h with ⟨k, _⟩ | ⟨_, a, p, q, ha, hp, hq, e1, e2, e3, _⟩ | ⟨k, _⟩ | ⟨k, _⟩ | ⟨k, _⟩ | ⟨k, _⟩ | ⟨k, _⟩
  · exact absurd k (by decide)
  · exact ⟨⟨a, ha, e1⟩, ⟨p, hp, e2⟩, ⟨q, hq, e3⟩⟩
  · exact absurd k (by decide)
  · exact absurd k (by decide)
  · exact absurd k (by decide)
  · exact absurd k (by decide)
  · exact absurd k (by decide)
theorem sk_sq_1 (h : sk_is 2 x ∧ sk_is M y ∧ sk_is M z) : ∃ W D, sk_sp M N ew sw dp 1 x y z W D := by
  obtain ⟨⟨a, ha, e1⟩, ⟨p, hp, e2⟩, ⟨q, hq, e3⟩⟩ := h
  exact ⟨_, _, Or.inr (Or.inl ⟨rfl, a, p, q, ha, hp, hq, e1, e2, e3, rfl, rfl⟩)⟩
theorem sk_sp_2 (h : ∃ W D, sk_sp M N ew sw dp 2 x y z W D) : sk_is N x ∧ sk_is N y := by
  obtain ⟨W, D, h⟩ := h
  rcases h with ⟨k, _⟩ | ⟨k, _⟩ | ⟨_, p, q, hp, hq, e1, e2, _⟩ | ⟨k, _⟩ | ⟨k, _⟩ | ⟨k, _⟩ | ⟨k, _⟩
  · exact absurd k (by decide)
  · exact absurd k (by decide)
  · exact ⟨⟨p, hp, e1⟩, ⟨q, hq, e2⟩⟩
  · exact absurd k (by decide)
  · exact absurd k (by decide)
  · exact absurd k (by decide)
  · exact absurd k (by decide)
theorem sk_sq_2 (h : sk_is N x ∧ sk_is N y) : ∃ W D, sk_sp M N ew sw dp 2 x y z W D := by
  obtain ⟨⟨p, hp, e1⟩, ⟨q, hq, e2⟩⟩ := h
  exact ⟨_, _, Or.inr (Or.inr (Or.inl ⟨rfl, p, q, hp, hq, e1, e2, rfl, rfl⟩))⟩
theorem sk_sp_3 (h : ∃ W D, sk_sp M N ew sw dp 3 x y z W D) : sk_is M x ∧ sk_is N y ∧ (z = -1 ∨ sk_is N z) := by
  obtain ⟨W, D, h⟩ := h
  rcases h with ⟨k, _⟩ | ⟨k, _⟩ | ⟨k, _⟩ | ⟨_, p, q, hp, hq, e1, e2, e3⟩ | ⟨k, _⟩ | ⟨k, _⟩ | ⟨k, _⟩
  · exact absurd k (by decide)
  · exact absurd k (by decide)
  · exact absurd k (by decide)
  · exact ⟨⟨p, hp, e1⟩, ⟨q, hq, e2⟩, e3.imp (fun w => w.1) (fun ⟨r, hr, e, _⟩ => ⟨r, hr, e⟩)⟩
  · exact absurd k (by decide)
  · exact absurd k (by decide)
  · exact absurd k (by decide)
theorem sk_sq_3 (h : sk_is M x ∧ sk_is N y ∧ (z = -1 ∨ sk_is N z)) : ∃ W D, sk_sp M N ew sw dp 3 x y z W D := by
  obtain ⟨⟨p, hp, e1⟩, ⟨q, hq, e2⟩, e3⟩ := h
  rcases e3 with e3 | ⟨r, hr, e3⟩
  · exact ⟨_, _, Or.inr (Or.inr (Or.inr (Or.inl ⟨rfl, p, q, hp, hq, e1, e2, Or.inl ⟨e3, rfl, rfl⟩⟩)))⟩
  · exact ⟨_, _, Or.inr (Or.inr (Or.inr (Or.inl ⟨rfl, p, q, hp, hq, e1, e2, Or.inr ⟨r, hr, e3, rfl, rfl⟩⟩)))⟩
theorem sk_sp_4 (h : ∃ W D, sk_sp M N ew sw dp 4 x y z W D) : (¬ x < 1 ∧ ¬ 6 < x) ∧ sk_is N y := by
  obtain ⟨W, D, h⟩ := h
  rcases h with ⟨k, _⟩ | ⟨k, _⟩ | ⟨k, _⟩ | ⟨k, _⟩ | ⟨_, t, q, h1, h2, hq, e1, e2, _⟩ | ⟨k, _⟩ | ⟨k, _⟩
  · exact absurd k (by decide)
  · exact absurd k (by decide)
  · exact absurd k (by decide)
  · exact absurd k (by decide)
  · exact ⟨(sk_is4 x).mpr ⟨t, h1, h2, e1⟩, ⟨q, hq, e2⟩⟩
  · exact absurd k (by decide)
  · exact absurd k (by decide)
theorem sk_sq_4 (h : (¬ x < 1 ∧ ¬ 6 < x) ∧ sk_is N y) : ∃ W D, sk_sp M N ew sw dp 4 x y z W D := by
  obtain ⟨h0, ⟨q, hq, e2⟩⟩ := h
  obtain ⟨t, h1, h2, e1⟩ := (sk_is4 x).mp h0
  exact ⟨_, _, Or.inr (Or.inr (Or.inr (Or.inr (Or.inl ⟨rfl, t, q, h1, h2, hq, e1, e2, rfl, rfl⟩))))⟩
theorem sk_sp_5 (h : ∃ W D, sk_sp M N ew sw dp 5 x y z W D) : sk_is M x ∧ sk_is N y := by
  obtain ⟨W, D, h⟩ := h
  rcases h with ⟨k, _⟩ | ⟨k, _⟩ | ⟨k, _⟩ | ⟨k, _⟩ | ⟨k, _⟩ | ⟨_, p, q, hp, hq, e1, e2, _⟩ | ⟨k, _⟩
  · exact absurd k (by decide)
  · exact absurd k (by decide)
  · exact absurd k (by decide)
  · exact absurd k (by decide)
  · exact absurd k (by decide)
  · exact ⟨⟨p, hp, e1⟩, ⟨q, hq, e2⟩⟩
  · exact absurd k (by decide)
theorem sk_sq_5 (h : sk_is M x ∧ sk_is N y) : ∃ W D, sk_sp M N ew sw dp 5 x y z W D := by
  obtain ⟨⟨p, hp, e1⟩, ⟨q, hq, e2⟩⟩ := h
  exact ⟨_, _, Or.inr (Or.inr (Or.inr (Or.inr (Or.inr (Or.inl ⟨rfl, p, q, hp, hq, e1, e2, rfl, rfl⟩)))))⟩
theorem sk_sp_6 (h : ∃ W D, sk_sp M N ew sw dp 6 x y z W D) : sk_is M x := by
  obtain ⟨W, D, h⟩ := h
  rcases h with ⟨k, _⟩ | ⟨k, _⟩ | ⟨k, _⟩ | ⟨k, _⟩ | ⟨k, _⟩ | ⟨k, _⟩ | ⟨_, p, hp, e1, _⟩
  · exact absurd k (by decide)
  · exact absurd k (by decide)
  · exact absurd k (by decide)
  · exact absurd k (by decide)
  · exact absurd k (by decide)
  · exact absurd k (by decide)
  · exact ⟨p, hp, e1⟩
theorem sk_sq_6 (h : sk_is M x) : ∃ W D, sk_sp M N ew sw dp 6 x y z W D := by
  obtain ⟨p, hp, e1⟩ := h
  exact ⟨_, _, Or.inr (Or.inr (Or.inr (Or.inr (Or.inr (Or.inr ⟨rfl, p, hp, e1, rfl, rfl⟩)))))⟩
end
section
variable {pl lc pc : Int32} {M N : Nat} {vs es lab ek ex px py pz ew od sec rdo sk sx sy sz sw dp so sh la pa vl ps pt pr : sk_F}
theorem sk_xit {post : Int32 → Prop} {x : Int32} (hN : N ≤ 40) (H1 : sk_is N x → post 1) (H0 : ¬ sk_is N x → post 0) : wpX_isStatement post (nI M, nI N, lc, pc, pl, vs, es, lab, ek, ex, px, py, pz, ew, od, sec, rdo, sk, sx, sy, sz, sw, dp, so, sh, la, pa, vl, ps, pt, pr) x :=
  sk_is_c x (n := N) (by omega) (fun a b h => br_f a (br_f b (H1 h))) (fun h w => by rcases w with w | ⟨w, v⟩; exact br_t w (H0 h); exact br_f w (br_t v (H0 h)))
theorem sk_xsf {post : Int32 → Prop} {m : Nat} {x y z : Int32} (hM : M ≤ 50) (hN : N ≤ 40) (hm : m ≤ 6) (H1 : (∃ W D, sk_sp M N ew sw dp m x y z W D) → post 1) (H0 : ¬ (∃ W D, sk_sp M N ew sw dp m x y z W D) → post 0) : wpX_statementFits post (nI M, nI N, lc, pc, pl, vs, es, lab, ek, ex, px, py, pz, ew, od, sec, rdo, sk, sx, sy, sz, sw, dp, so, sh, la, pa, vl, ps, pt, pr) (nI m) x y z := by
  have hm2 : m = 0 ∨ m = 1 ∨ m = 2 ∨ m = 3 ∨ m = 4 ∨ m = 5 ∨ m = 6 := by omega
  rcases hm2 with rfl | rfl | rfl | rfl | rfl | rfl | rfl
  · exact br_f (by decide) (br_f (by decide) (br_t rfl (sk_xiv (fun a => br_f (by decide) (sk_xie hM (fun b => br_f (by decide) (H1 (sk_sq_0 ⟨a, b⟩))) (fun b => br_t rfl (H0 (fun w => b (sk_sp_0 w).2))))) (fun a => br_t rfl (H0 (fun w => a (sk_sp_0 w).1))))))
  · exact br_f (by decide) (br_f (by decide) (br_f (by decide) (br_t rfl (sk_xia (fun a => br_f (by decide) (sk_xie hM (fun b => br_f (by decide) (sk_xie hM (fun d => br_f (by decide) (H1 (sk_sq_1 ⟨a, b, d⟩))) (fun d => br_t rfl (H0 (fun w => d (sk_sp_1 w).2.2))))) (fun b => br_t rfl (H0 (fun w => b (sk_sp_1 w).2.1))))) (fun a => br_t rfl (H0 (fun w => a (sk_sp_1 w).1)))))))
  · exact br_f (by decide) (br_f (by decide) (br_f (by decide) (br_f (by decide) (br_t rfl (sk_xit hN (fun a => br_f (by decide) (sk_xit hN (fun b => br_f (by decide) (H1 (sk_sq_2 ⟨a, b⟩))) (fun b => br_t rfl (H0 (fun w => b (sk_sp_2 w).2))))) (fun a => br_t rfl (H0 (fun w => a (sk_sp_2 w).1))))))))
  · exact br_f (by decide) (br_f (by decide) (br_f (by decide) (br_f (by decide) (br_f (by decide) (br_t rfl (sk_xie hM (fun a => br_f (by decide) (sk_xit hN (fun b => br_f (by decide) (br_c (fun d => H1 (sk_sq_3 ⟨a, b, Or.inl d⟩)) (fun d => sk_xit hN (fun f => br_f (by decide) (H1 (sk_sq_3 ⟨a, b, Or.inr f⟩))) (fun f => br_t rfl (H0 (fun w => (sk_sp_3 w).2.2.elim d f)))))) (fun b => br_t rfl (H0 (fun w => b (sk_sp_3 w).2.1))))) (fun a => br_t rfl (H0 (fun w => a (sk_sp_3 w).1)))))))))
  · exact br_f (by decide) (br_f (by decide) (br_f (by decide) (br_f (by decide) (br_f (by decide) (br_f (by decide) (br_t rfl (br_c (fun a => H0 (fun w => (sk_sp_4 w).1.1 a)) (fun a => br_c (fun b => H0 (fun w => (sk_sp_4 w).1.2 b)) (fun b => sk_xit hN (fun d => br_f (by decide) (H1 (sk_sq_4 ⟨⟨a, b⟩, d⟩))) (fun d => br_t rfl (H0 (fun w => d (sk_sp_4 w).2))))))))))))
  · exact br_f (by decide) (br_f (by decide) (br_f (by decide) (br_f (by decide) (br_f (by decide) (br_f (by decide) (br_f (by decide) (br_t rfl (sk_xie hM (fun a => br_f (by decide) (sk_xit hN (fun b => br_f (by decide) (H1 (sk_sq_5 ⟨a, b⟩))) (fun b => br_t rfl (H0 (fun w => b (sk_sp_5 w).2))))) (fun a => br_t rfl (H0 (fun w => a (sk_sp_5 w).1)))))))))))
  · exact br_f (by decide) (br_t (by decide) (sk_xie hM (fun a => ⟨rfl, H1 (sk_sq_6 a)⟩) (fun a => ⟨rfl, H0 (fun w => a (sk_sp_6 w))⟩)))
theorem sk_xwo {post : Int32 → Prop} {m W D : Nat} {x y z : Int32} (hM : M ≤ 50) (hN : N ≤ 40) (hwE : ∀ p, p < M → ew p = nI (sk_w ew p)) (hwS : ∀ p, p < N → sw p = nI (sk_w sw p)) (hdS : ∀ p, p < N → dp p = nI (sk_w dp p)) (hd3 : ∀ p, p < N → sk_w dp p ≤ 3) (h : sk_sp M N ew sw dp m x y z W D) (H : post (nI W)) : wpX_weightOf post (nI M, nI N, lc, pc, pl, vs, es, lab, ek, ex, px, py, pz, ew, od, sec, rdo, sk, sx, sy, sz, sw, dp, so, sh, la, pa, vl, ps, pt, pr) (nI m) x y z := by
  have iE : ∀ p, p < M → vp_in (nI p) 50 := fun p hp => vp_in_nI (by omega) (by omega)
  have iS : ∀ p, p < N → vp_in (nI p) 40 := fun p hp => vp_in_nI (by omega) (by omega)
  have eE : ∀ p, p < M → ew (nI p).toNatClampNeg = nI (sk_w ew p) := fun p hp => by rw [nI_clamp (by omega)]; exact hwE p hp
  have eS : ∀ p, p < N → sw (nI p).toNatClampNeg = nI (sk_w sw p) := fun p hp => by rw [nI_clamp (by omega)]; exact hwS p hp
  have eD : ∀ p, p < N → dp (nI p).toNatClampNeg = nI (sk_w dp p) := fun p hp => by rw [nI_clamp (by omega)]; exact hdS p hp
  have o1 : (1 : Int32) = nI 1 := rfl
  unfold wpX_weightOf wX_weightOf_99
  dsimp only
  rcases h with ⟨rfl, v, p, hv, hp, rfl, rfl, rfl, rfl⟩ | ⟨rfl, a, p, q, ha, hp, hq, rfl, rfl, rfl, rfl, rfl⟩ | ⟨rfl, p, q, hp, hq, rfl, rfl, rfl, rfl⟩ | ⟨rfl, p, q, hp, hq, rfl, rfl, ⟨rfl, rfl, rfl⟩ | ⟨r, hr, rfl, rfl, rfl⟩⟩ | ⟨rfl, t, q, h1, h2, hq, rfl, rfl, rfl, rfl⟩ | ⟨rfl, p, q, hp, hq, rfl, rfl, rfl, rfl⟩ | ⟨rfl, p, hp, rfl, rfl, rfl⟩
  · rw [eE p hp, o1, nI_add]
    exact br_f (by decide) (br_f (by decide) (br_t rfl ⟨iE p hp, H⟩))
  · rw [eE p hp, eE q hq, o1, nI_add, nI_add]
    exact br_f (by decide) (br_f (by decide) (br_f (by decide) (br_t rfl ⟨iE p hp, iE q hq, H⟩)))
  · rw [eS p hp, eS q hq, o1, nI_add, nI_add]
    exact br_f (by decide) (br_f (by decide) (br_f (by decide) (br_f (by decide) (br_t rfl ⟨iS p hp, iS q hq, H⟩))))
  · rw [eE p hp, eS q hq]
    refine br_f (by decide) (br_f (by decide) (br_f (by decide) (br_f (by decide) (br_f (by decide) (br_t rfl (br_t rfl ⟨iE p hp, iS q hq, ?_⟩))))))
    rw [o1, nI_add, nI_add, show (0 : Int32) = nI 0 from rfl, nI_add]
    exact H
  · rw [eE p hp, eS q hq, eS r hr]
    refine br_f (by decide) (br_f (by decide) (br_f (by decide) (br_f (by decide) (br_f (by decide) (br_t rfl (br_f (sk_m1 (by omega)) ⟨iS r hr, iE p hp, iS q hq, ?_⟩))))))
    rw [o1, nI_add, nI_add, nI_add]
    exact H
  · rw [eS q hq, o1, nI_add]
    exact br_f (by decide) (br_f (by decide) (br_f (by decide) (br_f (by decide) (br_f (by decide) (br_f (by decide) (br_t rfl ⟨iS q hq, H⟩))))))
  · rw [eE p hp, eS q hq, o1, nI_add, nI_add]
    exact br_f (by decide) (br_f (by decide) (br_f (by decide) (br_f (by decide) (br_f (by decide) (br_f (by decide) (br_f (by decide) (br_t rfl ⟨iE p hp, iS q hq, H⟩)))))))
  · rw [eE p hp, o1, nI_add]
    exact br_f (by decide) (br_t (by decide) ⟨iE p hp, H⟩)
theorem sk_xlg {post : Int32 → Prop} {a b c : Nat} {x y : Int32} (hx : x = nI a) (hy : y = nI b) (ha : a ≤ 3) (hb : b ≤ 3) (hc : c = max a b) (H : post (nI c)) : wpX_larger post x y := by
  subst hx hy hc
  refine pk_le a b (fun h => ?_) (fun h => ?_)
  · rw [Nat.max_eq_right h] at H
    exact H
  · rw [Nat.max_eq_left (by omega)] at H
    exact H
theorem sk_xno {post : Int32 → Prop} {m W D : Nat} {x y z : Int32} (hM : M ≤ 50) (hN : N ≤ 40) (hwE : ∀ p, p < M → ew p = nI (sk_w ew p)) (hwS : ∀ p, p < N → sw p = nI (sk_w sw p)) (hdS : ∀ p, p < N → dp p = nI (sk_w dp p)) (hd3 : ∀ p, p < N → sk_w dp p ≤ 3) (h : sk_sp M N ew sw dp m x y z W D) (H : post (nI D)) : wpX_nestingOf post (nI M, nI N, lc, pc, pl, vs, es, lab, ek, ex, px, py, pz, ew, od, sec, rdo, sk, sx, sy, sz, sw, dp, so, sh, la, pa, vl, ps, pt, pr) (nI m) x y z := by
  have iE : ∀ p, p < M → vp_in (nI p) 50 := fun p hp => vp_in_nI (by omega) (by omega)
  have iS : ∀ p, p < N → vp_in (nI p) 40 := fun p hp => vp_in_nI (by omega) (by omega)
  have eE : ∀ p, p < M → ew (nI p).toNatClampNeg = nI (sk_w ew p) := fun p hp => by rw [nI_clamp (by omega)]; exact hwE p hp
  have eS : ∀ p, p < N → sw (nI p).toNatClampNeg = nI (sk_w sw p) := fun p hp => by rw [nI_clamp (by omega)]; exact hwS p hp
  have eD : ∀ p, p < N → dp (nI p).toNatClampNeg = nI (sk_w dp p) := fun p hp => by rw [nI_clamp (by omega)]; exact hdS p hp
  have o1 : (1 : Int32) = nI 1 := rfl
  unfold wpX_nestingOf wX_nestingOf_65
  dsimp only
  rcases h with ⟨rfl, v, p, hv, hp, rfl, rfl, rfl, rfl⟩ | ⟨rfl, a, p, q, ha, hp, hq, rfl, rfl, rfl, rfl, rfl⟩ | ⟨rfl, p, q, hp, hq, rfl, rfl, rfl, rfl⟩ | ⟨rfl, p, q, hp, hq, rfl, rfl, ⟨rfl, rfl, rfl⟩ | ⟨r, hr, rfl, rfl, rfl⟩⟩ | ⟨rfl, t, q, h1, h2, hq, rfl, rfl, rfl, rfl⟩ | ⟨rfl, p, q, hp, hq, rfl, rfl, rfl, rfl⟩ | ⟨rfl, p, hp, rfl, rfl, rfl⟩
  · exact br_t (by decide) H
  · exact br_t (by decide) H
  · exact br_f (by decide) (br_f (by decide) (br_t rfl ⟨iS p hp, iS q hq, sk_xlg (eD p hp) (eD q hq) (hd3 p hp) (hd3 q hq) rfl H⟩))
  · exact br_f (by decide) (br_f (by decide) (br_f (by decide) (br_t rfl (br_t rfl ⟨iS q hq, sk_xlg (b := 0) (eD q hq) rfl (hd3 q hq) (by omega) (Nat.max_eq_left (Nat.zero_le _)).symm H⟩))))
  · exact br_f (by decide) (br_f (by decide) (br_f (by decide) (br_t rfl (br_f (sk_m1 (by omega)) ⟨iS r hr, iS q hq, sk_xlg (eD q hq) (eD r hr) (hd3 q hq) (hd3 r hr) rfl H⟩))))
  · rw [eD q hq, o1, nI_add]
    exact br_f (by decide) (br_f (by decide) (br_f (by decide) (br_f (by decide) (br_t rfl ⟨iS q hq, H⟩))))
  · rw [eD q hq, o1, nI_add]
    exact br_f (by decide) (br_f (by decide) (br_f (by decide) (br_f (by decide) (br_f (by decide) (br_t rfl ⟨iS q hq, H⟩)))))
  · exact br_f (by decide) (br_t (by decide) H)
/-- a new statement is as it must be -/
theorem sk_news {m W D : Nat} {x y z : Int32} (h : sk_sp M N ew sw dp m x y z W D) (hW : W ≤ 30) (hD : D ≤ 3) : sk_stm M ew (upd sk N (nI m)) (upd sx N x) (upd sy N y) (upd sz N z) (upd sw N (nI W)) (upd dp N (nI D)) N := by
  have eW : sk_w (upd sw N (nI W)) N = W := by unfold sk_w; rw [pk_us, nI_clamp (by omega)]
  have eD : sk_w (upd dp N (nI D)) N = D := by unfold sk_w; rw [pk_us, nI_clamp (by omega)]
  have pW : ∀ p, p < N → sk_w (upd sw N (nI W)) p = sk_w sw p := fun p hp => by unfold sk_w; rw [pk_un (by omega)]
  have pD : ∀ p, p < N → sk_w (upd dp N (nI D)) p = sk_w dp p := fun p hp => by unfold sk_w; rw [pk_un (by omega)]
  unfold sk_stm
  rw [eW, eD]
  simp only [pk_us]
  have h1 : 1 ≤ W := by rcases h with ⟨_, v, p, h⟩ | ⟨_, a, p, q, h⟩ | ⟨_, p, q, h⟩ | ⟨_, p, q, _, _, _, _, h | ⟨r, h⟩⟩ | ⟨_, t, q, h⟩ | ⟨_, p, q, h⟩ | ⟨_, p, h⟩ <;> omega
  refine ⟨⟨trivial, trivial, h1, hW, hD⟩, ?_⟩
  rcases h with ⟨rfl, v, p, hv, hp, e1, e2, w, d⟩ | ⟨rfl, a, p, q, ha, hp, hq, e1, e2, e3, w, d⟩ | ⟨rfl, p, q, hp, hq, e1, e2, w, d⟩ | ⟨rfl, p, q, hp, hq, e1, e2, ⟨e3, w, d⟩ | ⟨r, hr, e3, w, d⟩⟩ | ⟨rfl, t, q, h1, h2, hq, e1, e2, w, d⟩ | ⟨rfl, p, q, hp, hq, e1, e2, w, d⟩ | ⟨rfl, p, hp, e1, w, d⟩
  · exact Or.inl ⟨rfl, v, p, hv, hp, e1, e2⟩
  · exact Or.inr (Or.inl ⟨rfl, a, p, q, ha, hp, hq, e1, e2, e3, by omega⟩)
  · exact Or.inr (Or.inr (Or.inl ⟨rfl, p, q, hp, hq, e1, e2, by rw [pW p hp, pW q hq]; omega, by rw [pD p hp]; omega, by rw [pD q hq]; omega⟩))
  · exact Or.inr (Or.inr (Or.inr (Or.inl ⟨rfl, p, q, hp, hq, e1, e2, by rw [pD q hq]; omega, by rw [pW q hq]; omega, Or.inl e3⟩)))
  · exact Or.inr (Or.inr (Or.inr (Or.inl ⟨rfl, p, q, hp, hq, e1, e2, by rw [pD q hq]; omega, by rw [pW q hq]; omega, Or.inr ⟨r, hr, e3, by rw [pD r hr]; omega, by rw [pW q hq, pW r hr]; omega⟩⟩)))
  · exact Or.inr (Or.inr (Or.inr (Or.inr (Or.inl ⟨rfl, t, q, h2, hq, e1, e2, by rw [pW q hq]; omega, by rw [pD q hq]; omega⟩))))
  · exact Or.inr (Or.inr (Or.inr (Or.inr (Or.inr (Or.inl ⟨rfl, p, q, hp, hq, e1, e2, by rw [pW q hq]; omega, by rw [pD q hq]; omega⟩)))))
  · exact Or.inr (Or.inr (Or.inr (Or.inr (Or.inr (Or.inr ⟨rfl, p, hp, e1⟩)))))
/-- X's state -/
theorem sk_xst {post : Int32 → SX → Prop} {m : Nat} {x y z : Int32} (hM : M ≤ 50) (hN : N < 40) (hwE : ∀ p, p < M → ew p = nI (sk_w ew p)) (hwS : ∀ p, p < N → sw p = nI (sk_w sw p)) (hdS : ∀ p, p < N → dp p = nI (sk_w dp p)) (hd3 : ∀ p, p < N → sk_w dp p ≤ 3) (hw30 : ∀ p, p < M → sk_w ew p ≤ 30) (hs30 : ∀ p, p < N → sk_w sw p ≤ 30) (hm : m ≤ 6) (H0 : ¬ (∃ W D, sk_sp M N ew sw dp m x y z W D) → post (-1) (nI M, nI N, lc, pc, pl, vs, es, lab, ek, ex, px, py, pz, ew, od, sec, rdo, sk, sx, sy, sz, sw, dp, so, sh, la, pa, vl, ps, pt, pr))
    (HF : ∀ W D, sk_sp M N ew sw dp m x y z W D → ¬ (W ≤ 30 ∧ D ≤ 3) → post (-2) (nI M, nI N, lc, pc, pl, vs, es, lab, ek, ex, px, py, pz, ew, od, sec, rdo, sk, sx, sy, sz, sw, dp, so, sh, la, pa, vl, ps, pt, pr))
    (HO : ∀ W D, sk_sp M N ew sw dp m x y z W D → W ≤ 30 → D ≤ 3 → ∀ so' sh' : sk_F, (∀ j, ¬ j = N → so' j = so j ∧ sh' j = sh j) → sk_sfe lab sec rdo (upd sk N (nI m)) (upd sx N x) (upd sy N y) (upd sz N z) so' sh' N → post (nI N) (nI M, nI (N + 1), lc, pc, pl, vs, es, lab, ek, ex, px, py, pz, ew, od, sec, rdo, upd sk N (nI m), upd sx N x, upd sy N y, upd sz N z, upd sw N (nI W), upd dp N (nI D), so', sh', la, pa, vl, ps, pt, pr)) : wpX_state post (nI M, nI N, lc, pc, pl, vs, es, lab, ek, ex, px, py, pz, ew, od, sec, rdo, sk, sx, sy, sz, sw, dp, so, sh, la, pa, vl, ps, pt, pr) (nI m) x y z := by
  have i : vp_in (nI N) 40 := vp_in_nI hN (by omega)
  have c := nI_clamp (show N < 2 ^ 31 by omega)
  refine br_t (nI_lt (b := 40) hN (by decide)) (br_f (nI_pos (by omega)) (br_f (nI_nlt (a := 6) hm (by decide)) ?_))
  refine sk_xsf hM (by omega) hm (fun h => br_f (by decide) ?_) (fun h => br_t rfl (H0 h))
  obtain ⟨W, D, h⟩ := h
  have hW : W ≤ 100 ∧ D ≤ 4 := by
    rcases h with ⟨_, v, p, _, hp, h⟩ | ⟨_, a, p, q, _, hp, hq, h⟩ | ⟨_, p, q, hp, hq, h⟩ | ⟨_, p, q, hp, hq, _, _, h | ⟨r, hr, h⟩⟩ | ⟨_, t, q, _, _, hq, h⟩ | ⟨_, p, q, hp, hq, h⟩ | ⟨_, p, hp, h⟩
    · have := hw30 p hp; omega
    · have := hw30 p hp; have := hw30 q hq; omega
    · have := hs30 p hp; have := hs30 q hq; have := hd3 p hp; have := hd3 q hq; omega
    · have := hw30 p hp; have := hs30 q hq; have := hd3 q hq; omega
    · have := hw30 p hp; have := hs30 q hq; have := hd3 q hq; have := hs30 r hr; have := hd3 r hr; omega
    · have := hs30 q hq; have := hd3 q hq; omega
    · have := hw30 p hp; have := hs30 q hq; have := hd3 q hq; omega
    · have := hw30 p hp; omega
  refine sk_xwo hM (by omega) hwE hwS hdS hd3 h (sk_xno hM (by omega) hwE hwS hdS hd3 h ?_)
  refine pk_lt 30 W (fun g => HF W D h (by omega)) (fun g => pk_le D 3 (fun g2 => nm_r (nI_1 N) ?_) (fun g2 => HF W D h (by omega)))
  rw [c]
  refine ⟨i, nm_e ⟨i, nm_e ⟨i, nm_e ⟨i, nm_e ⟨i, nm_e ⟨i, nm_e ?_⟩⟩⟩⟩⟩⟩
  exact sk_xjs hM hN (sk_news h g g2) (fun so' sh' a1 a2 => HO W D h g g2 so' sh' a1 a2)
end
section
variable {pl lc pc : Int32} {M N : Nat} {vs es lab ek ex ey ez px py pz ew od sec rdo sk sx sy sz sw dp so sh la pa vl ps pt pr : sk_F}
/-- the loop over statements -/
theorem sk_xl42 {post : Int32 → SX → Prop} (hM : M ≤ 50) (hN : N ≤ 40) (HS : ∀ s, s < N → sk_stm M ew sk sx sy sz sw dp s)
    (H : ∀ so' sh' : sk_F, (∀ s, s < N → sk_sfe lab sec rdo sk sx sy sz so' sh' s) → post 1 (nI M, nI N, lc, pc, pl, vs, es, lab, ek, ex, px, py, pz, ew, od, sec, rdo, sk, sx, sy, sz, sw, dp, so', sh', la, pa, vl, ps, pt, pr)) :
    ∀ (d i : Nat) (so sh : sk_F), i + d = N → (∀ s, s < i → sk_sfe lab sec rdo sk sx sy sz so sh s) → wX_label_42 post (d + 1) (nI i) (nI M) (nI N) lc pc pl vs es lab ek ex px py pz ew od sec rdo sk sx sy sz sw dp so sh la pa vl ps pt pr := by
  intro d
  induction d with
  | zero =>
    intro i so sh hi h
    have : i = N := by omega
    subst this
    exact br_t (nI_le (Nat.le_refl _) (by omega)) (H so sh h)
  | succ d ih =>
    intro i so sh hi h
    refine br_f (nI_ge (by omega) (by omega)) ?_
    refine sk_xjs hM (by omega) (HS i (by omega)) (fun so' sh' a1 a2 => nm_r (nI_1 i) (ih (i + 1) so' sh' (by omega) ?_))
    intro s hs
    by_cases hsi : s = i
    · subst hsi
      exact a2
    · exact sk_sfe_up hM (by omega) (HS s (by omega)) (fun _ _ => ⟨rfl, rfl⟩) (fun j hj => a1 j (by omega)) ⟨rfl, rfl, rfl, rfl⟩ (h s (by omega))
/-- the loop over expressions, then that over statements -/
theorem sk_xl21 {post : Int32 → SX → Prop} (hM : M ≤ 50) (hN : N ≤ 40) (HE : ∀ e, e < M → sk_node ek ex ey ez ew px py pz od e) (HS : ∀ s, s < N → sk_stm M ew sk sx sy sz sw dp s)
    (H : ∀ sec' rdo' so' sh' : sk_F, (∀ e, e < M → sk_se lab ek ex px py pz sec' rdo' e) → (∀ s, s < N → sk_sfe lab sec' rdo' sk sx sy sz so' sh' s) → post 1 (nI M, nI N, lc, pc, pl, vs, es, lab, ek, ex, px, py, pz, ew, od, sec', rdo', sk, sx, sy, sz, sw, dp, so', sh', la, pa, vl, ps, pt, pr)) :
    ∀ (d i : Nat) (sec rdo : sk_F), i + d = M → (∀ e, e < i → sk_se lab ek ex px py pz sec rdo e) → wX_label_21 post (d + 1) (nI i) (nI M) (nI N) lc pc pl vs es lab ek ex px py pz ew od sec rdo sk sx sy sz sw dp so sh la pa vl ps pt pr := by
  intro d
  induction d with
  | zero =>
    intro i sec rdo hi h
    have : i = M := by omega
    subst this
    refine br_t (nI_le (Nat.le_refl _) (by omega)) ⟨N + 1, ?_⟩
    exact sk_xl42 hM hN HS (fun so' sh' g => H sec rdo so' sh' h g) N 0 so sh (by omega) (fun s hs => absurd hs (by omega))
  | succ d ih =>
    intro i sec rdo hi h
    refine br_f (nI_ge (by omega) (by omega)) ?_
    refine sk_xje (by omega) (HE i (by omega)) (fun sec' rdo' a1 a2 => nm_r (nI_1 i) (ih (i + 1) sec' rdo' (by omega) ?_))
    intro e he
    by_cases hei : e = i
    · subst hei
      exact a2
    · exact sk_se_up (h e (by omega)) (by omega) (sk_node_pt (HE e (by omega))) (fun j hj => ⟨rfl, rfl, rfl, rfl, rfl, (a1 j (by omega)).1, (a1 j (by omega)).2⟩)
end
section
variable {lc pc de tp hg : Int32} {M N : Nat} {vs es lab ek ex ey ez ew hid wld sk sx sy sz sw dp oS hS la pa wk aw fd dg st rl ch : sk_F}
theorem sk_yit {post : Int32 → Prop} {x : Int32} {nM : Int32} (hN : N ≤ 40) (H1 : sk_is N x → post 1) (H0 : ¬ sk_is N x → post 0) : wpY_isStatement post (nM, nI N, lc, pc, de, tp, hg, ek, ex, ey, ez, ew, hid, wld, sk, sx, sy, sz, sw, dp, oS, hS, lab, vs, es, la, pa, wk, aw, fd, dg, st, rl, ch) x :=
  sk_is_c x (n := N) (by omega) (fun a b h => br_f a (br_f b (H1 h))) (fun h w => by rcases w with w | ⟨w, v⟩; exact br_t w (H0 h); exact br_f w (br_t v (H0 h)))
theorem sk_yft {post : Int32 → Prop} {m : Nat} {x y z : Int32} (hM : M ≤ 50) (hN : N ≤ 40) (hm : m ≤ 6) (H1 : (∃ W D, sk_sp M N ew sw dp m x y z W D) → post 1) (H0 : ¬ (∃ W D, sk_sp M N ew sw dp m x y z W D) → post 0) : wpY_fits post (nI M, nI N, lc, pc, de, tp, hg, ek, ex, ey, ez, ew, hid, wld, sk, sx, sy, sz, sw, dp, oS, hS, lab, vs, es, la, pa, wk, aw, fd, dg, st, rl, ch) (nI m) x y z := by
  have hm2 : m = 0 ∨ m = 1 ∨ m = 2 ∨ m = 3 ∨ m = 4 ∨ m = 5 ∨ m = 6 := by omega
  rcases hm2 with rfl | rfl | rfl | rfl | rfl | rfl | rfl
  · exact br_t rfl (sk_yin (n := 7) (by omega) rfl (fun a => br_f (by decide) (sk_yie hM (fun b => br_f (by decide) (H1 (sk_sq_0 ⟨a, b⟩))) (fun b => br_t rfl (H0 (fun w => b (sk_sp_0 w).2))))) (fun a => br_t rfl (H0 (fun w => a (sk_sp_0 w).1))))
  · exact br_f (by decide) (br_t rfl (sk_yin (n := 1) (by omega) rfl (fun a => br_f (by decide) (sk_yie hM (fun b => br_f (by decide) (sk_yie hM (fun d => br_f (by decide) (H1 (sk_sq_1 ⟨a, b, d⟩))) (fun d => br_t rfl (H0 (fun w => d (sk_sp_1 w).2.2))))) (fun b => br_t rfl (H0 (fun w => b (sk_sp_1 w).2.1))))) (fun a => br_t rfl (H0 (fun w => a (sk_sp_1 w).1)))))
  · exact br_f (by decide) (br_f (by decide) (br_t rfl (sk_yit hN (fun a => br_f (by decide) (sk_yit hN (fun b => br_f (by decide) (H1 (sk_sq_2 ⟨a, b⟩))) (fun b => br_t rfl (H0 (fun w => b (sk_sp_2 w).2))))) (fun a => br_t rfl (H0 (fun w => a (sk_sp_2 w).1))))))
  · exact br_f (by decide) (br_f (by decide) (br_f (by decide) (br_t rfl (sk_yie hM (fun a => br_f (by decide) (sk_yit hN (fun b => br_f (by decide) (br_c (fun d => H1 (sk_sq_3 ⟨a, b, Or.inl d⟩)) (fun d => sk_yit hN (fun f => br_f (by decide) (H1 (sk_sq_3 ⟨a, b, Or.inr f⟩))) (fun f => br_t rfl (H0 (fun w => (sk_sp_3 w).2.2.elim d f)))))) (fun b => br_t rfl (H0 (fun w => b (sk_sp_3 w).2.1))))) (fun a => br_t rfl (H0 (fun w => a (sk_sp_3 w).1)))))))
  · refine br_f (by decide) (br_f (by decide) (br_f (by decide) (br_f (by decide) (br_t rfl ?_))))
    exact br_c (fun a => br_t rfl (H0 (fun w => (sk_sp_4 w).1.1 a))) (fun a => br_c (fun b => br_t rfl (H0 (fun w => (sk_sp_4 w).1.2 b))) (fun b => br_f (by decide) (sk_yit hN (fun d => br_f (by decide) (H1 (sk_sq_4 ⟨⟨a, b⟩, d⟩))) (fun d => br_t rfl (H0 (fun w => d (sk_sp_4 w).2))))))
  · exact br_f (by decide) (br_f (by decide) (br_f (by decide) (br_f (by decide) (br_f (by decide) (br_t rfl (sk_yie hM (fun a => br_f (by decide) (sk_yit hN (fun b => br_f (by decide) (H1 (sk_sq_5 ⟨a, b⟩))) (fun b => br_t rfl (H0 (fun w => b (sk_sp_5 w).2))))) (fun a => br_t rfl (H0 (fun w => a (sk_sp_5 w).1)))))))))
  · exact br_f (by decide) (br_f (by decide) (br_f (by decide) (br_f (by decide) (br_f (by decide) (br_f (by decide) ((sk_yie hM (fun a => ⟨rfl, H1 (sk_sq_6 a)⟩) (fun a => ⟨rfl, H0 (fun w => a (sk_sp_6 w))⟩))))))))
theorem sk_ywo {post : Int32 → Prop} {m W D : Nat} {x y z : Int32} (hM : M ≤ 50) (hN : N ≤ 40) (hwE : ∀ p, p < M → ew p = nI (sk_w ew p)) (hwS : ∀ p, p < N → sw p = nI (sk_w sw p)) (hdS : ∀ p, p < N → dp p = nI (sk_w dp p)) (hd3 : ∀ p, p < N → sk_w dp p ≤ 3) (h : sk_sp M N ew sw dp m x y z W D) (H : post (nI W)) : wpY_weigh post (nI M, nI N, lc, pc, de, tp, hg, ek, ex, ey, ez, ew, hid, wld, sk, sx, sy, sz, sw, dp, oS, hS, lab, vs, es, la, pa, wk, aw, fd, dg, st, rl, ch) (nI m) x y z := by
  have iE : ∀ p, p < M → vp_in (nI p) 50 := fun p hp => vp_in_nI (by omega) (by omega)
  have iS : ∀ p, p < N → vp_in (nI p) 40 := fun p hp => vp_in_nI (by omega) (by omega)
  have eE : ∀ p, p < M → ew (nI p).toNatClampNeg = nI (sk_w ew p) := fun p hp => by rw [nI_clamp (by omega)]; exact hwE p hp
  have eS : ∀ p, p < N → sw (nI p).toNatClampNeg = nI (sk_w sw p) := fun p hp => by rw [nI_clamp (by omega)]; exact hwS p hp
  have eD : ∀ p, p < N → dp (nI p).toNatClampNeg = nI (sk_w dp p) := fun p hp => by rw [nI_clamp (by omega)]; exact hdS p hp
  have o1 : (1 : Int32) = nI 1 := rfl
  have o0 : (0 : Int32) = nI 0 := rfl
  unfold wpY_weigh
  dsimp only
  rcases h with ⟨rfl, v, p, hv, hp, rfl, rfl, rfl, rfl⟩ | ⟨rfl, a, p, q, ha, hp, hq, rfl, rfl, rfl, rfl, rfl⟩ | ⟨rfl, p, q, hp, hq, rfl, rfl, rfl, rfl⟩ | ⟨rfl, p, q, hp, hq, rfl, rfl, ⟨rfl, rfl, rfl⟩ | ⟨r, hr, rfl, rfl, rfl⟩⟩ | ⟨rfl, t, q, h1, h2, hq, rfl, rfl, rfl, rfl⟩ | ⟨rfl, p, q, hp, hq, rfl, rfl, rfl, rfl⟩ | ⟨rfl, p, hp, rfl, rfl, rfl⟩
  · rw [eE p hp]
    refine br_t rfl ⟨iE p hp, ?_⟩
    rw [o1, nI_add]
    exact H
  · rw [eE p hp, eE q hq]
    refine br_f (by decide) (br_t rfl ⟨iE p hp, iE q hq, ?_⟩)
    rw [o1, nI_add, nI_add]
    exact H
  · rw [eS p hp, eS q hq]
    refine br_f (by decide) (br_f (by decide) (br_t rfl ⟨iS p hp, iS q hq, ?_⟩))
    rw [o1, nI_add, nI_add]
    exact H
  · rw [eE p hp, eS q hq]
    refine br_f (by decide) (br_f (by decide) (br_f (by decide) (br_t rfl ⟨iE p hp, iS q hq, br_f (by decide) ?_⟩)))
    rw [o1, nI_add, nI_add, o0, nI_add]
    exact H
  · rw [eE p hp, eS q hq, eS r hr]
    refine br_f (by decide) (br_f (by decide) (br_f (by decide) (br_t rfl ⟨iE p hp, iS q hq, br_t (nI_pos' (by omega)) ⟨iS r hr, ?_⟩⟩)))
    rw [o1, nI_add, nI_add, nI_add]
    exact H
  · rw [eS q hq]
    refine br_f (by decide) (br_f (by decide) (br_f (by decide) (br_f (by decide) (br_t rfl ⟨iS q hq, ?_⟩))))
    rw [o1, nI_add]
    exact H
  · rw [eE p hp, eS q hq]
    refine br_f (by decide) (br_f (by decide) (br_f (by decide) (br_f (by decide) (br_f (by decide) ⟨iE p hp, br_t rfl ⟨iS q hq, ?_⟩⟩))))
    rw [o1, nI_add, nI_add]
    exact H
  · rw [eE p hp]
    refine br_f (by decide) (br_f (by decide) (br_f (by decide) (br_f (by decide) (br_f (by decide) ⟨iE p hp, br_f (by decide) ?_⟩))))
    rw [o1, nI_add, o0, nI_add]
    exact H
theorem sk_ylo {post : Int32 → Prop} {m W D : Nat} {x y z : Int32} (hM : M ≤ 50) (hN : N ≤ 40) (hwE : ∀ p, p < M → ew p = nI (sk_w ew p)) (hwS : ∀ p, p < N → sw p = nI (sk_w sw p)) (hdS : ∀ p, p < N → dp p = nI (sk_w dp p)) (hd3 : ∀ p, p < N → sk_w dp p ≤ 3) (h : sk_sp M N ew sw dp m x y z W D) (H : post (nI D)) : wpY_loops post (nI M, nI N, lc, pc, de, tp, hg, ek, ex, ey, ez, ew, hid, wld, sk, sx, sy, sz, sw, dp, oS, hS, lab, vs, es, la, pa, wk, aw, fd, dg, st, rl, ch) (nI m) x y z := by
  have iE : ∀ p, p < M → vp_in (nI p) 50 := fun p hp => vp_in_nI (by omega) (by omega)
  have iS : ∀ p, p < N → vp_in (nI p) 40 := fun p hp => vp_in_nI (by omega) (by omega)
  have eE : ∀ p, p < M → ew (nI p).toNatClampNeg = nI (sk_w ew p) := fun p hp => by rw [nI_clamp (by omega)]; exact hwE p hp
  have eS : ∀ p, p < N → sw (nI p).toNatClampNeg = nI (sk_w sw p) := fun p hp => by rw [nI_clamp (by omega)]; exact hwS p hp
  have eD : ∀ p, p < N → dp (nI p).toNatClampNeg = nI (sk_w dp p) := fun p hp => by rw [nI_clamp (by omega)]; exact hdS p hp
  have o1 : (1 : Int32) = nI 1 := rfl
  have o0 : (0 : Int32) = nI 0 := rfl
  unfold wpY_loops wY_loops_45 wY_loops_76
  dsimp only
  rcases h with ⟨rfl, v, p, hv, hp, rfl, rfl, rfl, rfl⟩ | ⟨rfl, a, p, q, ha, hp, hq, rfl, rfl, rfl, rfl, rfl⟩ | ⟨rfl, p, q, hp, hq, rfl, rfl, rfl, rfl⟩ | ⟨rfl, p, q, hp, hq, rfl, rfl, ⟨rfl, rfl, rfl⟩ | ⟨r, hr, rfl, rfl, rfl⟩⟩ | ⟨rfl, t, q, h1, h2, hq, rfl, rfl, rfl, rfl⟩ | ⟨rfl, p, q, hp, hq, rfl, rfl, rfl, rfl⟩ | ⟨rfl, p, hp, rfl, rfl, rfl⟩
  · exact br_t (by decide) H
  · exact br_t (by decide) H
  · rw [eD p hp, eD q hq]
    have := hd3 p hp
    have := hd3 q hq
    refine br_f (by decide) (br_f (by decide) ⟨iS q hq, nm_e (br_t rfl ⟨iS p hp, pk_le (sk_w dp p) (sk_w dp q) (fun g => br_f (by decide) (br_t (by decide) ?_)) (fun g => ⟨iS p hp, nm_e (br_f (by decide) (br_t (by decide) ?_))⟩)⟩)⟩)
    · rw [o0, nI_add, Nat.add_zero]
      rw [Nat.max_eq_right g] at H
      exact H
    · rw [o0, nI_add, Nat.add_zero]
      rw [Nat.max_eq_left (by omega)] at H
      exact H
  · rw [eD q hq]
    refine br_f (by decide) (br_f (by decide) ⟨iS q hq, nm_e (br_f (by decide) (br_t rfl (br_t (by decide) (br_t (by decide) ?_))))⟩)
    rw [o0, nI_add]
    exact H
  · rw [eD q hq, eD r hr]
    have := hd3 r hr
    have := hd3 q hq
    refine br_f (by decide) (br_f (by decide) ⟨iS q hq, nm_e (br_f (by decide) (br_t rfl (br_f (nI_pos (by omega)) ⟨iS r hr, pk_le (sk_w dp r) (sk_w dp q) (fun g => br_t (by decide) ?_) (fun g => ⟨iS r hr, nm_e (br_t (by decide) ?_)⟩)⟩)))⟩)
    · rw [o0, nI_add, Nat.add_zero]
      rw [Nat.max_eq_left g] at H
      exact H
    · rw [o0, nI_add, Nat.add_zero]
      rw [Nat.max_eq_right (by omega)] at H
      exact H
  · rw [eD q hq]
    refine br_f (by decide) (br_f (by decide) ⟨iS q hq, nm_e (br_f (by decide) (br_f (by decide) (br_f (by decide) ?_)))⟩)
    rw [o1, nI_add, Nat.add_comm]
    exact H
  · rw [eD q hq]
    refine br_f (by decide) (br_f (by decide) ⟨iS q hq, nm_e (br_f (by decide) (br_f (by decide) (br_f (by decide) ?_)))⟩)
    rw [o1, nI_add, Nat.add_comm]
    exact H
  · exact br_f (by decide) (br_t rfl H)
theorem sk_sp_u {m W D W' D' : Nat} {x y z : Int32} (hM : M ≤ 50) (hN : N ≤ 40) (h : sk_sp M N ew sw dp m x y z W D) (h' : sk_sp M N ew sw dp m x y z W' D') : W' = W ∧ D' = D := by
  have u : ∀ a b : Nat, a < 50 → b < 50 → nI a = nI b → a = b := fun a b ha hb e => (nI_eq (by omega) (by omega)).mp e
  rcases h with ⟨rfl, v, p, hv, hp, rfl, rfl, rfl, rfl⟩ | ⟨rfl, a, p, q, ha, hp, hq, rfl, rfl, rfl, rfl, rfl⟩ | ⟨rfl, p, q, hp, hq, rfl, rfl, rfl, rfl⟩ | ⟨rfl, p, q, hp, hq, rfl, rfl, ⟨rfl, rfl, rfl⟩ | ⟨r, hr, rfl, rfl, rfl⟩⟩ | ⟨rfl, t, q, h1, h2, hq, rfl, rfl, rfl, rfl⟩ | ⟨rfl, p, q, hp, hq, rfl, rfl, rfl, rfl⟩ | ⟨rfl, p, hp, rfl, rfl, rfl⟩
  · rcases h' with ⟨_, v', p', hv', hp', e1, e2, w, d⟩ | ⟨k, _⟩ | ⟨k, _⟩ | ⟨k, _⟩ | ⟨k, _⟩ | ⟨k, _⟩ | ⟨k, _⟩
    · cases u _ _ (by omega) (by omega) e2
      exact ⟨w, d⟩
    all_goals exact absurd k (by decide)
  · rcases h' with ⟨k, _⟩ | ⟨_, a', p', q', ha', hp', hq', e1, e2, e3, w, d⟩ | ⟨k, _⟩ | ⟨k, _⟩ | ⟨k, _⟩ | ⟨k, _⟩ | ⟨k, _⟩
    · exact absurd k (by decide)
    · cases u _ _ (by omega) (by omega) e2
      cases u _ _ (by omega) (by omega) e3
      exact ⟨w, d⟩
    all_goals exact absurd k (by decide)
  · rcases h' with ⟨k, _⟩ | ⟨k, _⟩ | ⟨_, p', q', hp', hq', e1, e2, w, d⟩ | ⟨k, _⟩ | ⟨k, _⟩ | ⟨k, _⟩ | ⟨k, _⟩
    · exact absurd k (by decide)
    · exact absurd k (by decide)
    · cases u _ _ (by omega) (by omega) e1
      cases u _ _ (by omega) (by omega) e2
      exact ⟨w, d⟩
    all_goals exact absurd k (by decide)
  · rcases h' with ⟨k, _⟩ | ⟨k, _⟩ | ⟨k, _⟩ | ⟨_, p', q', hp', hq', e1, e2, ⟨_, w, d⟩ | ⟨r', hr', e3, w, d⟩⟩ | ⟨k, _⟩ | ⟨k, _⟩ | ⟨k, _⟩
    · exact absurd k (by decide)
    · exact absurd k (by decide)
    · exact absurd k (by decide)
    · cases u _ _ (by omega) (by omega) e1
      cases u _ _ (by omega) (by omega) e2
      exact ⟨w, d⟩
    · exact absurd e3.symm (sk_m1 (by omega))
    all_goals exact absurd k (by decide)
  · rcases h' with ⟨k, _⟩ | ⟨k, _⟩ | ⟨k, _⟩ | ⟨_, p', q', hp', hq', e1, e2, ⟨e3, w, d⟩ | ⟨r', hr', e3, w, d⟩⟩ | ⟨k, _⟩ | ⟨k, _⟩ | ⟨k, _⟩
    · exact absurd k (by decide)
    · exact absurd k (by decide)
    · exact absurd k (by decide)
    · exact absurd e3 (sk_m1 (by omega))
    · cases u _ _ (by omega) (by omega) e1
      cases u _ _ (by omega) (by omega) e2
      cases u _ _ (by omega) (by omega) e3
      exact ⟨w, d⟩
    all_goals exact absurd k (by decide)
  · rcases h' with ⟨k, _⟩ | ⟨k, _⟩ | ⟨k, _⟩ | ⟨k, _⟩ | ⟨_, t', q', _, _, hq', e1, e2, w, d⟩ | ⟨k, _⟩ | ⟨k, _⟩
    · exact absurd k (by decide)
    · exact absurd k (by decide)
    · exact absurd k (by decide)
    · exact absurd k (by decide)
    · cases u _ _ (by omega) (by omega) e2
      exact ⟨w, d⟩
    all_goals exact absurd k (by decide)
  · rcases h' with ⟨k, _⟩ | ⟨k, _⟩ | ⟨k, _⟩ | ⟨k, _⟩ | ⟨k, _⟩ | ⟨_, p', q', hp', hq', e1, e2, w, d⟩ | ⟨k, _⟩
    · exact absurd k (by decide)
    · exact absurd k (by decide)
    · exact absurd k (by decide)
    · exact absurd k (by decide)
    · exact absurd k (by decide)
    · cases u _ _ (by omega) (by omega) e1
      cases u _ _ (by omega) (by omega) e2
      exact ⟨w, d⟩
    · exact absurd k (by decide)
  · rcases h' with ⟨k, _⟩ | ⟨k, _⟩ | ⟨k, _⟩ | ⟨k, _⟩ | ⟨k, _⟩ | ⟨k, _⟩ | ⟨_, p', hp', e1, w, d⟩
    · exact absurd k (by decide)
    · exact absurd k (by decide)
    · exact absurd k (by decide)
    · exact absurd k (by decide)
    · exact absurd k (by decide)
    · exact absurd k (by decide)
    · cases u _ _ (by omega) (by omega) e1
      exact ⟨w, d⟩
/-- Y's state, where X's weight and loops are known -/
theorem sk_yst {post : Int32 → SY → Prop} {m : Nat} {x y z : Int32} (hM : M ≤ 50) (hN : N < 40) (hwE : ∀ p, p < M → ew p = nI (sk_w ew p)) (hwS : ∀ p, p < N → sw p = nI (sk_w sw p)) (hdS : ∀ p, p < N → dp p = nI (sk_w dp p)) (hd3 : ∀ p, p < N → sk_w dp p ≤ 3) (hm : m ≤ 6) (H0 : ¬ (∃ W D, sk_sp M N ew sw dp m x y z W D) → post (-1) (nI M, nI N, lc, pc, de, tp, hg, ek, ex, ey, ez, ew, hid, wld, sk, sx, sy, sz, sw, dp, oS, hS, lab, vs, es, la, pa, wk, aw, fd, dg, st, rl, ch))
    (HF : ∀ W D, sk_sp M N ew sw dp m x y z W D → ¬ (W ≤ 30 ∧ D ≤ 3) → post (-2) (nI M, nI N, lc, pc, de, tp, hg, ek, ex, ey, ez, ew, hid, wld, sk, sx, sy, sz, sw, dp, oS, hS, lab, vs, es, la, pa, wk, aw, fd, dg, st, rl, ch)) (hWD : ∀ W D, sk_sp M N ew sw dp m x y z W D → W ≤ 100 ∧ D ≤ 4)
    (HO : ∀ W D, sk_sp M N ew sw dp m x y z W D → W ≤ 30 → D ≤ 3 → post (nI N) (nI M, nI (N + 1), lc, pc, de, tp, hg, ek, ex, ey, ez, ew, hid, wld, upd sk N (nI m), upd sx N x, upd sy N y, upd sz N z, upd sw N (nI W), upd dp N (nI D), oS, hS, lab, vs, es, la, pa, wk, aw, fd, dg, st, rl, ch)) : wpY_state post (nI M, nI N, lc, pc, de, tp, hg, ek, ex, ey, ez, ew, hid, wld, sk, sx, sy, sz, sw, dp, oS, hS, lab, vs, es, la, pa, wk, aw, fd, dg, st, rl, ch) (nI m) x y z := by
  have i : vp_in (nI N) 40 := vp_in_nI hN (by omega)
  have c := nI_clamp (show N < 2 ^ 31 by omega)
  refine br_f (fun w => absurd ((nI_eq (b := 40) (by omega) (by omega)).mp w) (by omega)) ?_
  refine sk_yin (n := 6) (by omega) rfl (fun _ => br_f (by decide) ?_) (fun w => absurd ⟨m, by omega, rfl⟩ w)
  refine sk_yft hM (by omega) hm (fun h => br_f (by decide) ?_) (fun h => br_t rfl (H0 h))
  obtain ⟨W, D, h⟩ := h
  obtain ⟨_, _⟩ := hWD W D h
  refine sk_ywo hM (by omega) hwE hwS hdS hd3 h (sk_ylo hM (by omega) hwE hwS hdS hd3 h ?_)
  refine pk_lt 30 W (fun g => HF W D h (by omega)) (fun g => pk_le D 3 (fun g2 => ?_) (fun g2 => HF W D h (by omega)))
  rw [c]
  refine ⟨i, nm_e ⟨i, nm_e ⟨i, nm_e ⟨i, nm_e ⟨i, nm_e ⟨i, nm_e (nm_r (nI_1 N) ?_)⟩⟩⟩⟩⟩⟩
  rw [nI_pred]
  exact HO W D h g g2
end
end
section
/-! 14: a new node is as it must be; the relation -/
section
variable {M N : Nat} {ek ex ey ez px py pz ew od od' : sk_F}
theorem sk_newn {m W : Nat} {x y z q1 q2 q3 : Int32} (hM : M < 50) (hm : m ≤ 14) (hfit : sk_fit M m x y z) (f1 : sk_fl (3 ≤ m) x q1 M) (f2 : sk_fl (m = 2 ∨ (3 ≤ m ∧ ¬ m = 13)) y q2 M) (f3 : sk_fl (m = 14) z q3 M)
    (hWe : W = sk_pw ew q1 + sk_pw ew q2 + sk_pw ew q3 + 1) (hW : W ≤ 30)
    (o2 : ∀ p, p < M → q1 = nI p → ∀ j, j < sk_w ew p → od' (30 * M + 0 + j) = od' (30 * p + j)) (o3 : ∀ p, p < M → q2 = nI p → ∀ j, j < sk_w ew p → od' (30 * M + sk_pw ew q1 + j) = od' (30 * p + j))
    (o4 : ∀ p, p < M → q3 = nI p → ∀ j, j < sk_w ew p → od' (30 * M + (sk_pw ew q1 + sk_pw ew q2) + j) = od' (30 * p + j)) (o5 : od' (30 * M + (sk_pw ew q1 + sk_pw ew q2 + sk_pw ew q3)) = nI M) :
    sk_node (upd ek M (nI m)) (upd ex M x) (upd ey M y) (upd ez M z) (upd ew M (nI W)) (upd px M q1) (upd py M q2) (upd pz M q3) od' M := by
  have eW : sk_w (upd ew M (nI W)) M = W := by unfold sk_w; rw [pk_us, nI_clamp (by omega)]
  have pW : ∀ p, p < M → sk_w (upd ew M (nI W)) p = sk_w ew p := fun p hp => by unfold sk_w; rw [pk_un (by omega)]
  have pwn : ∀ p, p < M → sk_pw ew (nI p) = sk_w ew p := fun p hp => by unfold sk_pw; rw [if_neg (sk_m1 (by omega)), nI_clamp (by omega)]
  have pw0 : sk_pw ew (-1) = 0 := if_pos rfl
  have sg : ∀ (b p : Nat), p < M → (∀ j, j < sk_w ew p → od' (b + j) = od' (30 * p + j)) → sk_seg (upd ew M (nI W)) od' b p := by
    intro b p hp h j hj
    rw [pW p hp] at hj
    exact h j hj
  have o6 : od' (30 * M + (W - 1)) = nI M := by
    rw [← o5]
    congr 2
    omega
  refine ⟨⟨by rw [eW]; exact pk_us, by rw [eW]; exact hW, by rw [eW]; exact o6⟩, ?_⟩
  rw [eW]
  by_cases hb : 3 ≤ m ∧ m ≤ 12
  · obtain ⟨p, hp, rfl, rfl⟩ := f1.1 hb.1
    obtain ⟨q, hq, rfl, rfl⟩ := f2.1 (Or.inr ⟨hb.1, by omega⟩)
    have e3 := f3.2 (by omega)
    subst e3
    rw [pwn p hp, pwn q hq, pw0] at hWe
    rw [pwn p hp] at o3
    exact Or.inr (Or.inr (Or.inr (Or.inr (Or.inr ⟨⟨m, hb.1, hb.2, pk_us⟩, pk_us, p, q, hp, hq, pk_us, pk_us, pk_us, pk_us, by rw [pW p hp, pW q hq]; omega, sg _ p hp (o2 p hp rfl), by rw [pW p hp]; exact sg _ q hq (o3 q hq rfl)⟩))))
  · have hm2 : m = 0 ∨ m = 1 ∨ m = 2 ∨ m = 13 ∨ m = 14 := by omega
    rcases hm2 with rfl | rfl | rfl | rfl | rfl
    · have e1 := f1.2 (by omega)
      have e2 := f2.2 (by omega)
      have e3 := f3.2 (by omega)
      subst e1 e2 e3
      rw [pw0] at hWe
      exact Or.inl ⟨pk_us, by omega, pk_us, pk_us, pk_us⟩
    · have e1 := f1.2 (by omega)
      have e2 := f2.2 (by omega)
      have e3 := f3.2 (by omega)
      subst e1 e2 e3
      rw [pw0] at hWe
      obtain ⟨v, hv, hx⟩ := (show sk_is 8 x from hfit)
      exact Or.inr (Or.inl ⟨pk_us, by omega, pk_us, pk_us, pk_us, v, hv, pk_us.trans hx⟩)
    · have e1 := f1.2 (by omega)
      have e3 := f3.2 (by omega)
      subst e1 e3
      obtain ⟨p, hp, rfl, rfl⟩ := f2.1 (Or.inl rfl)
      rw [pw0, pwn p hp] at hWe
      rw [pw0] at o3
      obtain ⟨a, ha, hx⟩ := (show sk_is 2 x ∧ sk_is M (nI p) from hfit).1
      exact Or.inr (Or.inr (Or.inl ⟨pk_us, pk_us, pk_us, a, p, ha, hp, pk_us.trans hx, pk_us, pk_us, by rw [pW p hp]; omega, sg _ p hp (o3 p hp rfl)⟩))
    · have e2 := f2.2 (by omega)
      have e3 := f3.2 (by omega)
      subst e2 e3
      obtain ⟨p, hp, rfl, rfl⟩ := f1.1 (by omega)
      rw [pw0, pwn p hp] at hWe
      exact Or.inr (Or.inr (Or.inr (Or.inl ⟨pk_us, pk_us, pk_us, p, hp, pk_us, pk_us, by rw [pW p hp]; omega, sg _ p hp (o2 p hp rfl)⟩)))
    · obtain ⟨p, hp, rfl, rfl⟩ := f1.1 (by omega)
      obtain ⟨q, hq, rfl, rfl⟩ := f2.1 (by omega)
      obtain ⟨r, hr, rfl, rfl⟩ := f3.1 (by omega)
      rw [pwn p hp, pwn q hq, pwn r hr] at hWe
      rw [pwn p hp] at o3
      rw [pwn p hp, pwn q hq] at o4
      exact Or.inr (Or.inr (Or.inr (Or.inr (Or.inl ⟨pk_us, p, q, r, hp, hq, hr, pk_us, pk_us, pk_us, pk_us, pk_us, pk_us, by rw [pW p hp, pW q hq, pW r hr]; omega, sg _ p hp (o2 p hp rfl), by rw [pW p hp]; exact sg _ q hq (o3 q hq rfl), by rw [pW p hp, pW q hq, Nat.add_assoc]; exact sg _ r hr (o4 r hr rfl)⟩))))
end
def sk_Inv (M N : Nat) (lab ek ex ey ez ew px py pz od sec rdo sk sx sy sz sw dp so sh : sk_F) : Prop :=
  M ≤ 50 ∧ N ≤ 40 ∧ (∀ e, e < M → sk_node ek ex ey ez ew px py pz od e) ∧ (∀ e, e < M → sk_se lab ek ex px py pz sec rdo e) ∧ (∀ s, s < N → sk_stm M ew sk sx sy sz sw dp s) ∧ (∀ s, s < N → sk_sfe lab sec rdo sk sx sy sz so sh s)
/-- the relation: what both keep is the same; X's tables are as they must be; Y's own finds and both scratches are free -/
def i_Rel (k : Nat) (u : SX) (v : SY) : Prop :=
  ∃ (M N : Nat) (lc pc pl de tp hg : Int32) (vs es lab ek ex px py pz ew od sec rdo sk sx sy sz sw dp so sh la pa vl ps pt pr ey ez hid wld oS hS wk aw fd dg st rl ch : sk_F), u = (nI M, nI N, lc, pc, pl, vs, es, lab, ek, ex, px, py, pz, ew, od, sec, rdo, sk, sx, sy, sz, sw, dp, so, sh, la, pa, vl, ps, pt, pr) ∧ v = (nI M, nI N, lc, pc, de, tp, hg, ek, ex, ey, ez, ew, hid, wld, sk, sx, sy, sz, sw, dp, oS, hS, lab, vs, es, la, pa, wk, aw, fd, dg, st, rl, ch) ∧ sk_Inv M N lab ek ex ey ez ew px py pz od sec rdo sk sx sy sz sw dp so sh
theorem i_up {k : Nat} {u : SX} {v : SY} (h : i_Rel k u v) : i_Rel (k + 5) u v := h
section
variable {k M N : Nat} {lc pc pl de tp hg : Int32} {vs es lab ek ex px py pz ew od sec rdo sk sx sy sz sw dp so sh la pa vl ps pt pr ey ez hid wld oS hS wk aw fd dg st rl ch : sk_F}
theorem sk_rel (I : sk_Inv M N lab ek ex ey ez ew px py pz od sec rdo sk sx sy sz sw dp so sh) : i_Rel k (nI M, nI N, lc, pc, pl, vs, es, lab, ek, ex, px, py, pz, ew, od, sec, rdo, sk, sx, sy, sz, sw, dp, so, sh, la, pa, vl, ps, pt, pr) (nI M, nI N, lc, pc, de, tp, hg, ek, ex, ey, ez, ew, hid, wld, sk, sx, sy, sz, sw, dp, oS, hS, lab, vs, es, la, pa, wk, aw, fd, dg, st, rl, ch) :=
  ⟨M, N, lc, pc, pl, de, tp, hg, vs, es, lab, ek, ex, px, py, pz, ew, od, sec, rdo, sk, sx, sy, sz, sw, dp, so, sh, la, pa, vl, ps, pt, pr, ey, ez, hid, wld, oS, hS, wk, aw, fd, dg, st, rl, ch, rfl, rfl, I⟩
end
theorem i_vc0 : wpX_init (fun u => wpY_init (fun v => i_Rel 0 u v)) :=
  ⟨0, 0, 0, 0, 0, 0, 0, 0, (fun _ => 0), (fun _ => 0), (fun _ => 0), (fun _ => 0), (fun _ => 0), (fun _ => 0), (fun _ => 0), (fun _ => 0), (fun _ => 0), (fun _ => 0), (fun _ => 0), (fun _ => 0), (fun _ => 0), (fun _ => 0), (fun _ => 0), (fun _ => 0), (fun _ => 0), (fun _ => 0), (fun _ => 0), (fun _ => 0), (fun _ => 0), (fun _ => 0), (fun _ => 0), (fun _ => 0), (fun _ => 0), (fun _ => 0), (fun _ => 0), (fun _ => 0), (fun _ => 0), (fun _ => 0), (fun _ => 0), (fun _ => 0), (fun _ => 0), (fun _ => 0), (fun _ => 0), (fun _ => 0), (fun _ => 0), (fun _ => 0), (fun _ => 0), rfl, rfl, by omega, by omega, fun _ h => absurd h (Nat.not_lt_zero _), fun _ h => absurd h (Nat.not_lt_zero _), fun _ h => absurd h (Nat.not_lt_zero _), fun _ h => absurd h (Nat.not_lt_zero _)⟩
end
section
/-! 15: the methods, one by one -/
theorem i_vc_leaks {k : Nat} {u : SX} {v : SY} (I : i_Rel k u v) (hk : k + 5 ≤ 2560) : wpX_leaks (fun r => wpY_leaks (fun r' => r' = r ∧ i_Rel (k + 5) u v) v) u := by
  obtain ⟨M, N, lc, pc, pl, de, tp, hg, vs, es, lab, ek, ex, px, py, pz, ew, od, sec, rdo, sk, sx, sy, sz, sw, dp, so, sh, la, pa, vl, ps, pt, pr, ey, ez, hid, wld, oS, hS, wk, aw, fd, dg, st, rl, ch, rfl, rfl, I⟩ := I
  exact ⟨rfl, sk_rel I⟩
theorem i_vc_printed {k : Nat} {u : SX} {v : SY} (I : i_Rel k u v) (hk : k + 5 ≤ 2560) : wpX_printed (fun r => wpY_printed (fun r' => r' = r ∧ i_Rel (k + 5) u v) v) u := by
  obtain ⟨M, N, lc, pc, pl, de, tp, hg, vs, es, lab, ek, ex, px, py, pz, ew, od, sec, rdo, sk, sx, sy, sz, sw, dp, so, sh, la, pa, vl, ps, pt, pr, ey, ez, hid, wld, oS, hS, wk, aw, fd, dg, st, rl, ch, rfl, rfl, I⟩ := I
  exact ⟨rfl, sk_rel I⟩
theorem i_vc_leak {k : Nat} {u : SX} {v : SY} (I : i_Rel k u v) (hk : k + 5 ≤ 2560) (v1 : Int32) : wpX_leak (fun r => wpY_leak (fun r' => r' = r ∧ i_Rel (k + 5) u v) v v1) u v1 := by
  obtain ⟨M, N, lc, pc, pl, de, tp, hg, vs, es, lab, ek, ex, px, py, pz, ew, od, sec, rdo, sk, sx, sy, sz, sw, dp, so, sh, la, pa, vl, ps, pt, pr, ey, ez, hid, wld, oS, hS, wk, aw, fd, dg, st, rl, ch, rfl, rfl, I⟩ := I
  by_cases h0 : v1 < 0
  · exact br_t h0 (br_t h0 ⟨rfl, sk_rel I⟩)
  · by_cases h1 : lc ≤ v1
    · exact br_f h0 (br_t h1 (br_f h0 (br_t h1 ⟨rfl, sk_rel I⟩)))
    · obtain ⟨j, hj, rfl⟩ := nI_of h0
      by_cases h2 : 200 ≤ j
      · exact br_f h0 (br_f h1 (br_t (nI_le (a := 200) h2 hj) (br_f h0 (br_f h1 (br_t (nI_lt (a := 199) (by omega) hj) ⟨rfl, sk_rel I⟩)))))
      · exact br_f h0 (br_f h1 (br_f (nI_ge (b := 200) (by omega) (by decide)) ⟨vp_in_nI (by omega) (by omega), br_f h0 (br_f h1 (br_f (nI_nlt (a := 199) (by omega) (by decide)) ⟨vp_in_nI (by omega) (by omega), rfl, sk_rel I⟩))⟩))
theorem i_vc_output {k : Nat} {u : SX} {v : SY} (I : i_Rel k u v) (hk : k + 5 ≤ 2560) (v1 : Int32) : wpX_output (fun r => wpY_output (fun r' => r' = r ∧ i_Rel (k + 5) u v) v v1) u v1 := by
  obtain ⟨M, N, lc, pc, pl, de, tp, hg, vs, es, lab, ek, ex, px, py, pz, ew, od, sec, rdo, sk, sx, sy, sz, sw, dp, so, sh, la, pa, vl, ps, pt, pr, ey, ez, hid, wld, oS, hS, wk, aw, fd, dg, st, rl, ch, rfl, rfl, I⟩ := I
  by_cases h0 : v1 < 0
  · exact br_t h0 (br_t h0 ⟨rfl, sk_rel I⟩)
  · by_cases h1 : pc ≤ v1
    · exact br_f h0 (br_t h1 (br_f h0 (br_t h1 ⟨rfl, sk_rel I⟩)))
    · obtain ⟨j, hj, rfl⟩ := nI_of h0
      by_cases h2 : 20 ≤ j
      · exact br_f h0 (br_f h1 (br_t (nI_le (a := 20) h2 hj) (br_f h0 (br_f h1 (br_t (nI_lt (a := 19) (by omega) hj) ⟨rfl, sk_rel I⟩)))))
      · exact br_f h0 (br_f h1 (br_f (nI_ge (b := 20) (by omega) (by decide)) ⟨vp_in_nI (by omega) (by omega), br_f h0 (br_f h1 (br_f (nI_nlt (a := 19) (by omega) (by decide)) ⟨vp_in_nI (by omega) (by omega), rfl, sk_rel I⟩))⟩))
theorem i_vc_variable {k : Nat} {u : SX} {v : SY} (I : i_Rel k u v) (hk : k + 5 ≤ 2560) (v1 : Int32) : wpX_variable (fun r => wpY_variable (fun r' => r' = r ∧ i_Rel (k + 5) u v) v v1) u v1 := by
  obtain ⟨M, N, lc, pc, pl, de, tp, hg, vs, es, lab, ek, ex, px, py, pz, ew, od, sec, rdo, sk, sx, sy, sz, sw, dp, so, sh, la, pa, vl, ps, pt, pr, ey, ez, hid, wld, oS, hS, wk, aw, fd, dg, st, rl, ch, rfl, rfl, I⟩ := I
  unfold wpX_variable wpY_variable
  refine sk_xiv (fun a => br_f (by decide) ?_) (fun a => br_t rfl (sk_yin (n := 7) (by omega) rfl (fun b => absurd b a) (fun b => br_t rfl ⟨rfl, sk_rel I⟩)))
  obtain ⟨j, hj, rfl⟩ := a
  exact ⟨vp_in_nI hj (by omega), sk_yin (n := 7) (by omega) rfl (fun b => br_f (by decide) ⟨vp_in_nI hj (by omega), rfl, sk_rel I⟩) (fun b => absurd ⟨j, hj, rfl⟩ b)⟩
theorem i_vc_setVariable {k : Nat} {u : SX} {v : SY} (I : i_Rel k u v) (hk : k + 5 ≤ 2560) (v1 : Int32) (v2 : Int32) : wpX_setVariable (fun r u' => wpY_setVariable (fun r' v' => r' = r ∧ i_Rel (k + 5) u' v') v v1 v2) u v1 v2 := by
  obtain ⟨M, N, lc, pc, pl, de, tp, hg, vs, es, lab, ek, ex, px, py, pz, ew, od, sec, rdo, sk, sx, sy, sz, sw, dp, so, sh, la, pa, vl, ps, pt, pr, ey, ez, hid, wld, oS, hS, wk, aw, fd, dg, st, rl, ch, rfl, rfl, I⟩ := I
  unfold wpX_setVariable wpY_setVariable
  refine sk_xiv (fun a => br_f (by decide) ?_) (fun a => br_t rfl (sk_yin (n := 7) (by omega) rfl (fun b => absurd b a) (fun b => br_t rfl ⟨rfl, sk_rel I⟩)))
  obtain ⟨j, hj, rfl⟩ := a
  exact ⟨vp_in_nI hj (by omega), nm_e (sk_yin (n := 7) (by omega) rfl (fun b => br_f (by decide) ⟨vp_in_nI hj (by omega), nm_e ⟨rfl, sk_rel I⟩⟩) (fun b => absurd ⟨j, hj, rfl⟩ b))⟩
theorem sk_xiel {post : Int32 → Prop} {x y : Int32} (H1 : sk_is 2 x → sk_is 8 y → post 1) (H0 : ¬ (sk_is 2 x ∧ sk_is 8 y) → post 0) : wpX_isElement post x y := by
  unfold wpX_isElement
  refine sk_xia (fun a => br_f (by decide) ?_) (fun a => br_t rfl (H0 (fun w => a w.1)))
  exact sk_is_c y (n := 8) (by decide) (fun h0 h1 h => br_f h0 (br_f h1 (H1 a h))) (fun h w => by rcases w with w | ⟨w, v⟩; exact br_t w (H0 (fun q => h q.2)); exact br_f w (br_t v (H0 (fun q => h q.2))))
theorem sk_el {a j : Nat} (ha : a < 2) (hj : j < 8) : nI a * 8 + nI j = nI (8 * a + j) ∧ 8 * nI a + nI j = nI (8 * a + j) := by
  have h8 : (8 : Int32) = nI 8 := rfl
  rw [h8, pk_mul, pk_mul, nI_add, nI_add, Nat.mul_comm a 8]
  exact ⟨rfl, rfl⟩
theorem i_vc_element {k : Nat} {u : SX} {v : SY} (I : i_Rel k u v) (hk : k + 5 ≤ 2560) (v1 : Int32) (v2 : Int32) : wpX_element (fun r => wpY_element (fun r' => r' = r ∧ i_Rel (k + 5) u v) v v1 v2) u v1 v2 := by
  obtain ⟨M, N, lc, pc, pl, de, tp, hg, vs, es, lab, ek, ex, px, py, pz, ew, od, sec, rdo, sk, sx, sy, sz, sw, dp, so, sh, la, pa, vl, ps, pt, pr, ey, ez, hid, wld, oS, hS, wk, aw, fd, dg, st, rl, ch, rfl, rfl, I⟩ := I
  unfold wpX_element wpY_element
  refine sk_xiel (fun a a2 => br_f (by decide) ?_) (fun a => br_t rfl (sk_yin (n := 1) (by omega) rfl (fun b => br_f (by decide) (sk_yin (n := 7) (by omega) rfl (fun c => absurd ⟨b, c⟩ a) (fun c => br_t rfl ⟨rfl, sk_rel I⟩))) (fun b => br_t rfl ⟨rfl, sk_rel I⟩)))
  obtain ⟨i, hi, rfl⟩ := a
  obtain ⟨j, hj, rfl⟩ := a2
  obtain ⟨e1, e2⟩ := sk_el hi hj
  rw [e1, e2]
  exact ⟨vp_in_nI (by omega) (by omega), sk_yin (n := 1) (by omega) rfl (fun b => br_f (by decide) (sk_yin (n := 7) (by omega) rfl (fun c => br_f (by decide) ⟨vp_in_nI (by omega) (by omega), rfl, sk_rel I⟩) (fun c => absurd ⟨j, hj, rfl⟩ c))) (fun b => absurd ⟨i, hi, rfl⟩ b)⟩
theorem i_vc_setElement {k : Nat} {u : SX} {v : SY} (I : i_Rel k u v) (hk : k + 5 ≤ 2560) (v1 : Int32) (v2 : Int32) (v3 : Int32) : wpX_setElement (fun r u' => wpY_setElement (fun r' v' => r' = r ∧ i_Rel (k + 5) u' v') v v1 v2 v3) u v1 v2 v3 := by
  obtain ⟨M, N, lc, pc, pl, de, tp, hg, vs, es, lab, ek, ex, px, py, pz, ew, od, sec, rdo, sk, sx, sy, sz, sw, dp, so, sh, la, pa, vl, ps, pt, pr, ey, ez, hid, wld, oS, hS, wk, aw, fd, dg, st, rl, ch, rfl, rfl, I⟩ := I
  unfold wpX_setElement wpY_setElement
  refine sk_xiel (fun a a2 => br_f (by decide) ?_) (fun a => br_t rfl (sk_yin (n := 1) (by omega) rfl (fun b => br_f (by decide) (sk_yin (n := 7) (by omega) rfl (fun c => absurd ⟨b, c⟩ a) (fun c => br_t rfl ⟨rfl, sk_rel I⟩))) (fun b => br_t rfl ⟨rfl, sk_rel I⟩)))
  obtain ⟨i, hi, rfl⟩ := a
  obtain ⟨j, hj, rfl⟩ := a2
  obtain ⟨e1, e2⟩ := sk_el hi hj
  rw [e1, e2]
  exact ⟨vp_in_nI (by omega) (by omega), nm_e (sk_yin (n := 1) (by omega) rfl (fun b => br_f (by decide) (sk_yin (n := 7) (by omega) rfl (fun c => br_f (by decide) ⟨vp_in_nI (by omega) (by omega), nm_e ⟨rfl, sk_rel I⟩⟩) (fun c => absurd ⟨j, hj, rfl⟩ c))) (fun b => absurd ⟨i, hi, rfl⟩ b))⟩
theorem i_vc_level {k : Nat} {u : SX} {v : SY} (I : i_Rel k u v) (hk : k + 5 ≤ 2560) (v1 : Int32) : wpX_level (fun r => wpY_level (fun r' => r' = r ∧ i_Rel (k + 5) u v) v v1) u v1 := by
  obtain ⟨M, N, lc, pc, pl, de, tp, hg, vs, es, lab, ek, ex, px, py, pz, ew, od, sec, rdo, sk, sx, sy, sz, sw, dp, so, sh, la, pa, vl, ps, pt, pr, ey, ez, hid, wld, oS, hS, wk, aw, fd, dg, st, rl, ch, rfl, rfl, I⟩ := I
  unfold wpX_level wpY_level
  by_cases h0 : v1 < 0
  · exact br_t h0 (br_t h0 ⟨rfl, rfl, sk_rel I⟩)
  · by_cases h1 : 2 < v1
    · exact br_f h0 (br_t h1 (br_f h0 (br_t h1 ⟨rfl, rfl, sk_rel I⟩)))
    · exact br_f h0 (br_f h1 (br_f h0 (br_f h1 ⟨rfl, rfl, sk_rel I⟩)))
theorem i_vc_label {k : Nat} {u : SX} {v : SY} (I : i_Rel k u v) (hk : k + 5 ≤ 2560) (v1 : Int32) (v2 : Int32) : wpX_label (fun r u' => wpY_label (fun r' v' => r' = r ∧ i_Rel (k + 5) u' v') v v1 (lw_bz v2)) u v1 (lw_bz v2) := by
  obtain ⟨M, N, lc, pc, pl, de, tp, hg, vs, es, lab, ek, ex, px, py, pz, ew, od, sec, rdo, sk, sx, sy, sz, sw, dp, so, sh, la, pa, vl, ps, pt, pr, ey, ez, hid, wld, oS, hS, wk, aw, fd, dg, st, rl, ch, rfl, rfl, I⟩ := I
  obtain ⟨hM, hN, HE, HQ, HS, HF⟩ := I
  have I : sk_Inv M N lab ek ex ey ez ew px py pz od sec rdo sk sx sy sz sw dp so sh := ⟨hM, hN, HE, HQ, HS, HF⟩
  unfold wpY_label
  refine sk_is_c v1 (n := 10) (by decide) (fun h0 h1 h => ?_) (fun h w => ?_)
  · obtain ⟨j, hj, rfl⟩ := h
    have hl : nI j < 10 := nI_lt (b := 10) hj (by decide)
    have c := nI_clamp (show j < 2 ^ 31 by omega)
    refine br_f h0 (br_t hl ⟨vp_in_nI hj (by omega), nm_r (e' := upd lab j (vp_nar .boolean (lw_bz v2))) (by rw [c]) ⟨M + 1, ?_⟩⟩)
    refine sk_xl21 hM hN HE HS (fun sec' rdo' so' sh' g1 g2 => ?_) M 0 sec rdo (by omega) (fun _ h => absurd h (Nat.not_lt_zero _))
    exact sk_yin (n := 9) (by omega) rfl (fun b => br_f (by decide) ⟨vp_in_nI hj (by omega), nm_r (e' := upd lab j (vp_nar .boolean (lw_bz v2))) (by rw [c]) ⟨rfl, sk_rel ⟨hM, hN, HE, g1, HS, g2⟩⟩⟩) (fun b => absurd ⟨j, hj, rfl⟩ b)
  · rcases w with w | ⟨w, w2⟩
    · exact br_t w (sk_yin (n := 9) (by omega) rfl (fun b => absurd b h) (fun b => br_t rfl ⟨rfl, sk_rel I⟩))
    · exact br_f w (br_f (Int32.not_lt.mpr w2) (sk_yin (n := 9) (by omega) rfl (fun b => absurd b h) (fun b => br_t rfl ⟨rfl, sk_rel I⟩)))
theorem i_vc_secret {k : Nat} {u : SX} {v : SY} (I : i_Rel k u v) (hk : k + 5 ≤ 2560) (v1 : Int32) : wpX_secret (fun r => wpY_secret (fun r' v' => r' = r ∧ i_Rel (k + 5) u v') v v1) u v1 := by
  obtain ⟨M, N, lc, pc, pl, de, tp, hg, vs, es, lab, ek, ex, px, py, pz, ew, od, sec, rdo, sk, sx, sy, sz, sw, dp, so, sh, la, pa, vl, ps, pt, pr, ey, ez, hid, wld, oS, hS, wk, aw, fd, dg, st, rl, ch, rfl, rfl, I⟩ := I
  obtain ⟨hM, hN, HE, HQ, HS, HF⟩ := I
  have I : sk_Inv M N lab ek ex ey ez ew px py pz od sec rdo sk sx sy sz sw dp so sh := ⟨hM, hN, HE, HQ, HS, HF⟩
  unfold wpX_secret wpY_secret
  refine sk_xie hM (fun a => br_f (by decide) ?_) (fun a => br_t rfl ?_)
  · obtain ⟨e, he, rfl⟩ := a
    have c := nI_clamp (show e < 2 ^ 31 by omega)
    have i : vp_in (nI e) 50 := vp_in_nI (by omega) (by omega)
    rw [c]
    refine ⟨i, br_c (fun z => sk_yfs hM HE HQ (fun hid' wld' h => ?_)) (fun z => sk_yfs hM HE HQ (fun hid' wld' h => ?_))⟩
    · exact sk_yie hM (fun _ => br_f (by decide) ⟨i, br_t ((h e he).1.mpr z) ⟨rfl, sk_rel I⟩⟩) (fun w => absurd ⟨e, he, rfl⟩ w)
    · exact sk_yie hM (fun _ => br_f (by decide) ⟨i, br_f (fun w => z ((h e he).1.mp w)) ⟨rfl, sk_rel I⟩⟩) (fun w => absurd ⟨e, he, rfl⟩ w)
  · exact sk_yfs hM HE HQ (fun hid' wld' h => sk_yie hM (fun w => absurd w a) (fun _ => br_t rfl ⟨rfl, sk_rel I⟩))
theorem i_vc_safe {k : Nat} {u : SX} {v : SY} (I : i_Rel k u v) (hk : k + 5 ≤ 2560) (v1 : Int32) : wpX_safe (fun r => wpY_safe (fun r' v' => r' = r ∧ i_Rel (k + 5) u v') v v1) u v1 := by
  obtain ⟨M, N, lc, pc, pl, de, tp, hg, vs, es, lab, ek, ex, px, py, pz, ew, od, sec, rdo, sk, sx, sy, sz, sw, dp, so, sh, la, pa, vl, ps, pt, pr, ey, ez, hid, wld, oS, hS, wk, aw, fd, dg, st, rl, ch, rfl, rfl, I⟩ := I
  obtain ⟨hM, hN, HE, HQ, HS, HF⟩ := I
  have I : sk_Inv M N lab ek ex ey ez ew px py pz od sec rdo sk sx sy sz sw dp so sh := ⟨hM, hN, HE, HQ, HS, HF⟩
  unfold wpX_safe wpY_safe
  refine sk_xit hN (fun a => br_f (by decide) ?_) (fun a => br_t rfl ?_)
  · obtain ⟨e, he, rfl⟩ := a
    have c := nI_clamp (show e < 2 ^ 31 by omega)
    have i : vp_in (nI e) 40 := vp_in_nI (by omega) (by omega)
    rw [c]
    refine ⟨i, br_c (fun z => sk_yfa hM hN HE HQ HS HF (fun hid' wld' oS' hS' h h2 => ?_)) (fun z => sk_yfa hM hN HE HQ HS HF (fun hid' wld' oS' hS' h h2 => ?_))⟩
    · exact sk_yit hN (fun _ => br_f (by decide) ⟨i, br_t ((h2 e he).mpr z) ⟨rfl, sk_rel I⟩⟩) (fun w => absurd ⟨e, he, rfl⟩ w)
    · exact sk_yit hN (fun _ => br_f (by decide) ⟨i, br_f (fun w => z ((h2 e he).mp w)) ⟨rfl, sk_rel I⟩⟩) (fun w => absurd ⟨e, he, rfl⟩ w)
  · exact sk_yfa hM hN HE HQ HS HF (fun hid' wld' oS' hS' h h2 => sk_yit hN (fun w => absurd w a) (fun _ => br_t rfl ⟨rfl, sk_rel I⟩))
end
section
/-! 16: express and state -/
section
variable {M N : Nat} {lab ek ex ey ez ew px py pz od sec rdo sk sx sy sz sw dp so sh od' sec' rdo' so' sh' : sk_F}
theorem sk_invE {m W : Nat} {x y z q1 q2 q3 : Int32} (I : sk_Inv M N lab ek ex ey ez ew px py pz od sec rdo sk sx sy sz sw dp so sh) (hM : M < 50)
    (hn : sk_node (upd ek M (nI m)) (upd ex M x) (upd ey M y) (upd ez M z) (upd ew M (nI W)) (upd px M q1) (upd py M q2) (upd pz M q3) od' M)
    (ho : ∀ j, j < 30 * M → od' j = od j) (g1 : ∀ j, ¬ j = M → sec' j = sec j ∧ rdo' j = rdo j) (g2 : sk_se lab (upd ek M (nI m)) (upd ex M x) (upd px M q1) (upd py M q2) (upd pz M q3) sec' rdo' M) :
    sk_Inv (M + 1) N lab (upd ek M (nI m)) (upd ex M x) (upd ey M y) (upd ez M z) (upd ew M (nI W)) (upd px M q1) (upd py M q2) (upd pz M q3) od' sec' rdo' sk sx sy sz sw dp so sh := by
  obtain ⟨_, hN, HE, HQ, HS, HF⟩ := I
  refine ⟨by omega, hN, ?_, ?_, ?_, ?_⟩
  · intro e he
    by_cases h : e = M
    · subst h
      exact hn
    · exact sk_node_up (HE e (by omega)) (fun j hj => ⟨pk_un (by omega), pk_un (by omega), pk_un (by omega), pk_un (by omega), pk_un (by omega), pk_un (by omega), pk_un (by omega), pk_un (by omega)⟩) (fun j hj => ho j (by omega))
  · intro e he
    by_cases h : e = M
    · subst h
      exact g2
    · exact sk_se_up (HQ e (by omega)) (by omega) (sk_node_pt (HE e (by omega))) (fun j hj => ⟨pk_un (by omega), pk_un (by omega), pk_un (by omega), pk_un (by omega), pk_un (by omega), (g1 j (by omega)).1, (g1 j (by omega)).2⟩)
  · exact fun s hs => sk_stm_upE (HS s hs) (fun j hj => pk_un (by omega))
  · exact fun s hs => sk_sfe_up (by omega) (by omega) (HS s hs) (fun j hj => g1 j (by omega)) (fun _ _ => ⟨rfl, rfl⟩) ⟨rfl, rfl, rfl, rfl⟩ (HF s hs)
theorem sk_invS {m W D : Nat} {x y z : Int32} (I : sk_Inv M N lab ek ex ey ez ew px py pz od sec rdo sk sx sy sz sw dp so sh) (hN : N < 40)
    (hn : sk_stm M ew (upd sk N (nI m)) (upd sx N x) (upd sy N y) (upd sz N z) (upd sw N (nI W)) (upd dp N (nI D)) N)
    (g1 : ∀ j, ¬ j = N → so' j = so j ∧ sh' j = sh j) (g2 : sk_sfe lab sec rdo (upd sk N (nI m)) (upd sx N x) (upd sy N y) (upd sz N z) so' sh' N) :
    sk_Inv M (N + 1) lab ek ex ey ez ew px py pz od sec rdo (upd sk N (nI m)) (upd sx N x) (upd sy N y) (upd sz N z) (upd sw N (nI W)) (upd dp N (nI D)) so' sh' := by
  obtain ⟨hM, _, HE, HQ, HS, HF⟩ := I
  refine ⟨hM, by omega, HE, HQ, ?_, ?_⟩
  · intro s hs
    by_cases h : s = N
    · subst h
      exact hn
    · exact sk_stm_upS (HS s (by omega)) (fun j hj => ⟨pk_un (by omega), pk_un (by omega), pk_un (by omega), pk_un (by omega), pk_un (by omega), pk_un (by omega)⟩)
  · intro s hs
    by_cases h : s = N
    · subst h
      exact g2
    · exact sk_sfe_up hM (by omega) (HS s (by omega)) (fun _ _ => ⟨rfl, rfl⟩) (fun j hj => g1 j (by omega)) ⟨pk_un h, pk_un h, pk_un h, pk_un h⟩ (HF s (by omega))
theorem sk_sp_b {m W D : Nat} {x y z : Int32} (hw30 : ∀ p, p < M → sk_w ew p ≤ 30) (hs30 : ∀ p, p < N → sk_w sw p ≤ 30) (hd3 : ∀ p, p < N → sk_w dp p ≤ 3) (h : sk_sp M N ew sw dp m x y z W D) : W ≤ 100 ∧ D ≤ 4 := by
  rcases h with ⟨_, v, p, _, hp, h⟩ | ⟨_, a, p, q, _, hp, hq, h⟩ | ⟨_, p, q, hp, hq, h⟩ | ⟨_, p, q, hp, hq, _, _, h | ⟨r, hr, h⟩⟩ | ⟨_, t, q, _, _, hq, h⟩ | ⟨_, p, q, hp, hq, h⟩ | ⟨_, p, hp, h⟩
  · have := hw30 p hp; omega
  · have := hw30 p hp; have := hw30 q hq; omega
  · have := hs30 p hp; have := hs30 q hq; have := hd3 p hp; have := hd3 q hq; omega
  · have := hw30 p hp; have := hs30 q hq; have := hd3 q hq; omega
  · have := hw30 p hp; have := hs30 q hq; have := hd3 q hq; have := hs30 r hr; have := hd3 r hr; omega
  · have := hs30 q hq; have := hd3 q hq; omega
  · have := hw30 p hp; have := hs30 q hq; have := hd3 q hq; omega
  · have := hw30 p hp; omega
end
theorem i_vc_express {k : Nat} {u : SX} {v : SY} (I : i_Rel k u v) (hk : k + 5 ≤ 2560) (v1 : Int32) (v2 : Int32) (v3 : Int32) (v4 : Int32) : wpX_express (fun r u' => wpY_express (fun r' v' => r' = r ∧ i_Rel (k + 5) u' v') v v1 v2 v3 v4) u v1 v2 v3 v4 := by
  obtain ⟨M, N, lc, pc, pl, de, tp, hg, vs, es, lab, ek, ex, px, py, pz, ew, od, sec, rdo, sk, sx, sy, sz, sw, dp, so, sh, la, pa, vl, ps, pt, pr, ey, ez, hid, wld, oS, hS, wk, aw, fd, dg, st, rl, ch, rfl, rfl, I⟩ := I
  obtain ⟨hM, hN, HE, HQ, HS, HF⟩ := I
  have I : sk_Inv M N lab ek ex ey ez ew px py pz od sec rdo sk sx sy sz sw dp so sh := ⟨hM, hN, HE, HQ, HS, HF⟩
  have hw : ∀ p, p < M → ew p = nI (sk_w ew p) := fun p hp => (HE p hp).1.1
  have hw30 : ∀ p, p < M → sk_w ew p ≤ 30 := fun p hp => (HE p hp).1.2.1
  by_cases hf : M = 50
  · subst hf
    exact br_f (by decide) (br_t rfl ⟨rfl, sk_rel I⟩)
  · have hM' : M < 50 := by omega
    have hne : ¬ nI M = 50 := fun w => absurd ((nI_eq (b := 50) (by omega) (by omega)).mp w) (by omega)
    by_cases h0 : v1 < 0
    · refine br_t (nI_lt (b := 50) hM' (by decide)) (br_t h0 (br_f hne ?_))
      exact sk_yin (n := 14) (by omega) rfl (fun b => by obtain ⟨j, hj, rfl⟩ := b; exact absurd h0 (nI_pos (by omega))) (fun b => br_t rfl ⟨rfl, sk_rel I⟩)
    · by_cases h1 : 14 < v1
      · refine br_t (nI_lt (b := 50) hM' (by decide)) (br_f h0 (br_t h1 (br_f hne ?_)))
        exact sk_yin (n := 14) (by omega) rfl (fun b => by obtain ⟨j, hj, rfl⟩ := b; exact absurd h1 (nI_nlt (a := 14) (by omega) (by decide))) (fun b => br_t rfl ⟨rfl, sk_rel I⟩)
      · obtain ⟨m, hm, rfl⟩ := nI_of2 (M := 14) (n := 14) (by decide) h0 (Int32.not_lt.mp h1)
        refine sk_xexp hM' hm (fun hf => sk_yexp hM' hm (fun _ => ⟨rfl, sk_rel I⟩) (fun w => absurd w hf)) (fun hf => ?_)
        obtain ⟨f1, f2, f3⟩ := sk_fit_fl hm hf
        refine sk_x78 (ey := upd ey M v3) (ez := upd ez M v4) hM' (sk_fl_pt f1) (sk_fl_pt f2) (sk_fl_pt f3) hw hw30 (fun hgt => ?_) (fun hle od' o1 o2 o3 o4 o5 => sk_newn hM' hm hf f1 f2 f3 rfl hle o2 o3 o4 o5) (fun hle od' sec' rdo' o1 o2 o3 o4 o5 g1 g2 => ?_)
        · exact sk_yexp hM' hm (fun w => absurd hf w) (fun _ => sk_y105 hM' hm hf hw hw30 (fun _ => ⟨rfl, sk_rel I⟩) (fun hle => absurd hgt (by omega)))
        · have I' := sk_invE (x := v2) (y := v3) (z := v4) (m := m) I hM' (sk_newn hM' hm hf f1 f2 f3 rfl hle o2 o3 o4 o5) o1 g1 g2
          exact sk_yexp hM' hm (fun w => absurd hf w) (fun _ => sk_y105 hM' hm hf hw hw30 (fun hgt => absurd hle (by omega)) (fun _ => ⟨rfl, sk_rel I'⟩))
theorem i_vc_state {k : Nat} {u : SX} {v : SY} (I : i_Rel k u v) (hk : k + 5 ≤ 2560) (v1 : Int32) (v2 : Int32) (v3 : Int32) (v4 : Int32) : wpX_state (fun r u' => wpY_state (fun r' v' => r' = r ∧ i_Rel (k + 5) u' v') v v1 v2 v3 v4) u v1 v2 v3 v4 := by
  obtain ⟨M, N, lc, pc, pl, de, tp, hg, vs, es, lab, ek, ex, px, py, pz, ew, od, sec, rdo, sk, sx, sy, sz, sw, dp, so, sh, la, pa, vl, ps, pt, pr, ey, ez, hid, wld, oS, hS, wk, aw, fd, dg, st, rl, ch, rfl, rfl, I⟩ := I
  obtain ⟨hM, hN, HE, HQ, HS, HF⟩ := I
  have I : sk_Inv M N lab ek ex ey ez ew px py pz od sec rdo sk sx sy sz sw dp so sh := ⟨hM, hN, HE, HQ, HS, HF⟩
  have hw : ∀ p, p < M → ew p = nI (sk_w ew p) := fun p hp => (HE p hp).1.1
  have hw30 : ∀ p, p < M → sk_w ew p ≤ 30 := fun p hp => (HE p hp).1.2.1
  have hwS : ∀ p, p < N → sw p = nI (sk_w sw p) := fun p hp => (HS p hp).1.1
  have hdS : ∀ p, p < N → dp p = nI (sk_w dp p) := fun p hp => (HS p hp).1.2.1
  have hs30 : ∀ p, p < N → sk_w sw p ≤ 30 := fun p hp => (HS p hp).1.2.2.2.1
  have hd3 : ∀ p, p < N → sk_w dp p ≤ 3 := fun p hp => (HS p hp).1.2.2.2.2
  by_cases hf : N = 40
  · subst hf
    exact br_f (by decide) (br_t rfl ⟨rfl, sk_rel I⟩)
  · have hN' : N < 40 := by omega
    have hne : ¬ nI N = 40 := fun w => absurd ((nI_eq (b := 40) (by omega) (by omega)).mp w) (by omega)
    by_cases h0 : v1 < 0
    · refine br_t (nI_lt (b := 40) hN' (by decide)) (br_t h0 (br_f hne ?_))
      exact sk_yin (n := 6) (by omega) rfl (fun b => by obtain ⟨j, hj, rfl⟩ := b; exact absurd h0 (nI_pos (by omega))) (fun b => br_t rfl ⟨rfl, sk_rel I⟩)
    · by_cases h1 : 6 < v1
      · refine br_t (nI_lt (b := 40) hN' (by decide)) (br_f h0 (br_t h1 (br_f hne ?_)))
        exact sk_yin (n := 6) (by omega) rfl (fun b => by obtain ⟨j, hj, rfl⟩ := b; exact absurd h1 (nI_nlt (a := 6) (by omega) (by decide))) (fun b => br_t rfl ⟨rfl, sk_rel I⟩)
      · obtain ⟨m, hm, rfl⟩ := nI_of2 (M := 6) (n := 6) (by decide) h0 (Int32.not_lt.mp h1)
        have hb : ∀ W D, sk_sp M N ew sw dp m v2 v3 v4 W D → W ≤ 100 ∧ D ≤ 4 := fun W D h => sk_sp_b hw30 hs30 hd3 h
        refine sk_xst hM hN' hw hwS hdS hd3 hw30 hs30 hm (fun hf => ?_) (fun W D h hn => ?_) (fun W D h hW hD so' sh' a1 a2 => ?_)
        · exact sk_yst hM hN' hw hwS hdS hd3 hm (fun _ => ⟨rfl, sk_rel I⟩) (fun W D h => absurd ⟨W, D, h⟩ hf) hb (fun W D h => absurd ⟨W, D, h⟩ hf)
        · exact sk_yst hM hN' hw hwS hdS hd3 hm (fun w => absurd ⟨W, D, h⟩ w) (fun _ _ _ _ => ⟨rfl, sk_rel I⟩) hb (fun W' D' h' g1 g2 => by obtain ⟨e1, e2⟩ := sk_sp_u hM hN h h'; subst e1 e2; exact absurd ⟨g1, g2⟩ hn)
        · have I' := sk_invS I hN' (sk_news h hW hD) a1 a2
          refine sk_yst hM hN' hw hwS hdS hd3 hm (fun w => absurd ⟨W, D, h⟩ w) (fun W' D' h' hn => ?_) hb (fun W' D' h' _ _ => ?_)
          · obtain ⟨e1, e2⟩ := sk_sp_u hM hN h h'
            subst e1 e2
            exact absurd ⟨hW, hD⟩ hn
          · obtain ⟨e1, e2⟩ := sk_sp_u hM hN h h'
            subst e1 e2
            exact ⟨rfl, sk_rel I'⟩
end
section
/-! 17: run -/
section
variable {M N : Nat} {lc pc de tp hg : Int32} {aw ch dg dp ek es ew ex ey ez fd hS hid la lab oS od pa px py pz rdo rl sec sh sk so st sw sx sy sz vs wk wld : sk_F}
theorem sk_yst0 {post : SY → Prop} {s : Nat} (H : post (nI M, nI N, 0, 0, de, tp, nI 1, ek, ex, ey, ez, ew, hid, wld, sk, sx, sy, sz, sw, dp, oS, hS, lab, vs, es, la, pa, wk, aw, fd, upd dg 0 (nI s), upd st 0 0, upd rl 0 (sk_bI true), ch)) : wpY_start post (nI M, nI N, 0, 0, de, tp, 0, ek, ex, ey, ez, ew, hid, wld, sk, sx, sy, sz, sw, dp, oS, hS, lab, vs, es, la, pa, wk, aw, fd, dg, st, rl, ch) (nI s) 1 := by
  have i : vp_in (0 : Int32) 32 := vp_in_nI (n := 0) (by omega) (by omega)
  exact ⟨i, nm_e ⟨i, nm_e ⟨i, nm_e (nm_r (e' := nI 1) rfl H)⟩⟩⟩
theorem sk_ysafe {post : Int32 → SY → Prop} {s : Nat} (I : sk_Inv M N lab ek ex ey ez ew px py pz od sec rdo sk sx sy sz sw dp so sh) (hs : s < N)
    (H : ∀ hid' wld' oS' hS' : sk_F, (∀ j, j < M → (hid' j = 0 ↔ sec j = 0)) → (so s = 0 → post 0 (nI M, nI N, lc, pc, de, tp, hg, ek, ex, ey, ez, ew, hid', wld', sk, sx, sy, sz, sw, dp, oS', hS', lab, vs, es, la, pa, wk, aw, fd, dg, st, rl, ch)) ∧ (¬ so s = 0 → post 1 (nI M, nI N, lc, pc, de, tp, hg, ek, ex, ey, ez, ew, hid', wld', sk, sx, sy, sz, sw, dp, oS', hS', lab, vs, es, la, pa, wk, aw, fd, dg, st, rl, ch))) : wpY_safe post (nI M, nI N, lc, pc, de, tp, hg, ek, ex, ey, ez, ew, hid, wld, sk, sx, sy, sz, sw, dp, oS, hS, lab, vs, es, la, pa, wk, aw, fd, dg, st, rl, ch) (nI s) := by
  obtain ⟨hM, hN, HE, HQ, HS, HF⟩ := I
  have c := nI_clamp (show s < 2 ^ 31 by omega)
  have i : vp_in (nI s) 40 := vp_in_nI (by omega) (by omega)
  unfold wpY_safe
  refine sk_yfa hM hN HE HQ HS HF (fun hid' wld' oS' hS' h h2 => sk_yit hN (fun _ => br_f (by decide) ⟨i, ?_⟩) (fun w => absurd ⟨s, hs, rfl⟩ w))
  have K := H hid' wld' oS' hS' h
  rw [c]
  exact br_c (fun w => K.1 ((h2 s hs).mp w)) (fun w => K.2 (fun z => w ((h2 s hs).mpr z)))
end
theorem i_vc_run {k : Nat} {u : SX} {v : SY} (I : i_Rel k u v) (hk : k + 5 ≤ 2560) (v1 : Int32) : wpX_run (fun r u' => wpY_run (fun r' v' => r' = r ∧ i_Rel (k + 5) u' v') v v1) u v1 := by
  obtain ⟨M, N, lc, pc, pl, de, tp, hg, vs, es, lab, ek, ex, px, py, pz, ew, od, sec, rdo, sk, sx, sy, sz, sw, dp, so, sh, la, pa, vl, ps, pt, pr, ey, ez, hid, wld, oS, hS, wk, aw, fd, dg, st, rl, ch, rfl, rfl, I⟩ := I
  obtain ⟨hM, hN, HE, HQ, HS, HF⟩ := I
  have I : sk_Inv M N lab ek ex ey ez ew px py pz od sec rdo sk sx sy sz sw dp so sh := ⟨hM, hN, HE, HQ, HS, HF⟩
  unfold wpX_run wpY_run
  refine sk_xit hN (fun a => br_f (by decide) ?_) (fun a => br_t rfl (sk_yit hN (fun w => absurd w a) (fun _ => br_t rfl ⟨rfl, sk_rel I⟩)))
  obtain ⟨s, hs, rfl⟩ := a
  have c := nI_clamp (show s < 2 ^ 31 by omega)
  have i : vp_in (nI s) 40 := vp_in_nI (by omega) (by omega)
  rw [c]
  refine ⟨i, br_c (fun z => ?_) (fun z => ?_)⟩
  · exact sk_yit hN (fun _ => br_f (by decide) (sk_ysafe I hs (fun hid' wld' oS' hS' _ => ⟨fun _ => br_t rfl ⟨rfl, sk_rel I⟩, fun w => absurd z w⟩))) (fun w => absurd ⟨s, hs, rfl⟩ w)
  · obtain ⟨⟨_, _, w1, w30, d3⟩, _⟩ := HS s hs
    have hB := sk_Kb d3 w30
    obtain ⟨vs1, es1, lc1, la1, pc1, pa1, cx, cy, i1, i2, i3, i4, XS, YS⟩ := sk_R hN hM HE HS HF s hs true vs es 0 la 0 pa (Or.inl ⟨rfl, z⟩) (by omega) (by omega)
    refine sk_xplan (b := 0) (lc := 0) (pc := 0) rfl (by omega) (by omega) rfl (sk_nb true) ⟨1 + cx, ?_⟩
    refine XS _ (sk_tx hN hM HE) 1 0 0 (upd ps 0 (nI s)) (upd pt 0 0) (upd pr 0 (sk_bI true)) (by omega) (by omega) ⟨pk_us, pk_us, pk_us⟩ ?_ vl
    intro ps' pt' pr' _ vl'
    refine br_f (nI_ge (b := 1000000) (by omega) (by decide)) (br_t (by decide) ?_)
    refine sk_yit hN (fun _ => br_f (by decide) (sk_ysafe I hs (fun hid' wld' oS' hS' hsc => ⟨fun w => absurd w z, fun _ => br_f (by decide) (sk_yst0 ⟨1 + cy, ?_⟩)⟩))) (fun w => absurd ⟨s, hs, rfl⟩ w)
    refine YS _ (sk_ty hN hM HE hsc) 1 0 0 (upd dg 0 (nI s)) (upd st 0 0) (upd rl 0 (sk_bI true)) ch (by omega) (by omega) ⟨pk_us, pk_us, pk_us⟩ ?_ de tp wk aw fd
    intro dg' st' rl' ch' _ de' tq' wk' aw' fd'
    exact br_f (nI_ge (b := 60000) (by omega) (by decide)) (br_t (by decide) ⟨rfl, sk_rel I⟩)
end
