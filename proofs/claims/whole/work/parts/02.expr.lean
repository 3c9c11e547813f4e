/-! 02: expressions. A node's value out of the values of its parts; what X's list machine and Y's stack machine do with an expression, each over rules of one step -/
def sk_w (ew : sk_F) (e : Nat) : Nat := (ew e).toNatClampNeg
def sk_cb (k x y : Int32) : Int32 :=
  if k = 3 then x + y else if k = 4 then x - y else if k = 5 then x * y else if k = 6 then x &&& y else if k = 7 then x ||| y
  else if k = 8 then x ^^^ y else if k = 9 then x <<< ((y &&& 31) &&& 31) else if k = 10 then (x.toUInt32 >>> ((y &&& 31).toUInt32 &&& Int32.toUInt32 31)).toInt32
  else if k = 11 then (if y ≤ x then 0 else 1) else (if x = y then 1 else 0)
def sk_ar (ek : sk_F) (e : Nat) : Nat := if ek e = 0 then 0 else if ek e = 1 then 0 else if ek e = 2 then 1 else if ek e = 13 then 1 else if ek e = 14 then 3 else 2
def sk_nv (ek ex vs es : sk_F) (e : Nat) (a b c : Int32) : Int32 :=
  if ek e = 0 then ex e else if ek e = 1 then vs (ex e).toNatClampNeg else if ek e = 2 then es (sk_at (ex e) a).toNatClampNeg
  else if ek e = 13 then (a ^^^ (-1)) else if ek e = 14 then (if a = 0 then c else b) else sk_cb (ek e) a b
def sk_lc (ek : sk_F) (e lc : Nat) : Nat := if ek e = 2 then lc + 1 else lc
def sk_la (ek ex : sk_F) (e : Nat) (a : Int32) (lc : Nat) (la : sk_F) : sk_F := if ek e = 2 then sk_put 200 lc la (16 + sk_at (ex e) a) else la
def sk_seg (ew od : sk_F) (b p : Nat) : Prop := ∀ j, j < sk_w ew p → od (b + j) = od (30 * p + j)
def sk_bin (ek : sk_F) (e : Nat) : Prop := ∃ k : Nat, 3 ≤ k ∧ k ≤ 12 ∧ ek e = nI k
/-- an expression as it must be: kind, operands, weight, X's parts and X's order -/
def sk_node (ek ex ey ez ew px py pz od : sk_F) (e : Nat) : Prop :=
  (ew e = nI (sk_w ew e) ∧ sk_w ew e ≤ 30 ∧ od (30 * e + (sk_w ew e - 1)) = nI e) ∧
  ((ek e = 0 ∧ sk_w ew e = 1 ∧ px e = -1 ∧ py e = -1 ∧ pz e = -1)
  ∨ (ek e = 1 ∧ sk_w ew e = 1 ∧ px e = -1 ∧ py e = -1 ∧ pz e = -1 ∧ ∃ v, v < 8 ∧ ex e = nI v)
  ∨ (ek e = 2 ∧ px e = -1 ∧ pz e = -1 ∧ ∃ a p, a < 2 ∧ p < e ∧ ex e = nI a ∧ ey e = nI p ∧ py e = nI p ∧ sk_w ew e = sk_w ew p + 1 ∧ sk_seg ew od (30 * e) p)
  ∨ (ek e = 13 ∧ py e = -1 ∧ pz e = -1 ∧ ∃ p, p < e ∧ ex e = nI p ∧ px e = nI p ∧ sk_w ew e = sk_w ew p + 1 ∧ sk_seg ew od (30 * e) p)
  ∨ (ek e = 14 ∧ ∃ p q r, p < e ∧ q < e ∧ r < e ∧ ex e = nI p ∧ ey e = nI q ∧ ez e = nI r ∧ px e = nI p ∧ py e = nI q ∧ pz e = nI r ∧ sk_w ew e = sk_w ew p + sk_w ew q + sk_w ew r + 1 ∧ sk_seg ew od (30 * e) p ∧ sk_seg ew od (30 * e + sk_w ew p) q ∧ sk_seg ew od (30 * e + sk_w ew p + sk_w ew q) r)
  ∨ (sk_bin ek e ∧ pz e = -1 ∧ ∃ p q, p < e ∧ q < e ∧ ex e = nI p ∧ ey e = nI q ∧ px e = nI p ∧ py e = nI q ∧ sk_w ew e = sk_w ew p + sk_w ew q + 1 ∧ sk_seg ew od (30 * e) p ∧ sk_seg ew od (30 * e + sk_w ew p) q))
abbrev sk_WE : Type := Nat → Nat → Nat → Nat → sk_F → sk_F → Prop
/-- X's rule: fuel, place in the list, height, leak count, leaks, values -/
def sk_RX (M : Nat) (ek ex ew od vs es : sk_F) (E : Nat) (W : sk_WE) : Prop :=
  ∀ (n i h lc : Nat) (la vals : sk_F) (e : Nat), e < M → od (30 * E + i) = nI e → i < sk_w ew E → h + sk_ar ek e ≤ 30 → h < 30 → lc < 2 ^ 30 →
    W n (i + 1) (h + 1) (sk_lc ek e lc) (sk_la ek ex e (vals h) lc la) (upd vals h (sk_nv ek ex vs es e (vals h) (vals (h + 1)) (vals (h + 2)))) →
    W (n + 1) i (h + sk_ar ek e) lc la vals
def sk_EvX (M : Nat) (ek ex ew od vs es : sk_F) (e lc : Nat) (la : sk_F) (v : Int32) (lc' : Nat) (la' : sk_F) : Prop :=
  ∀ (E : Nat) (W : sk_WE), sk_RX M ek ex ew od vs es E W → ∀ (n i h : Nat) (vals : sk_F), sk_seg ew od (30 * E + i) e → i + sk_w ew e ≤ sk_w ew E → h + sk_w ew e ≤ 30 →
    (∀ vals' : sk_F, (∀ j, j < h → vals' j = vals j) → vals' h = v → W n (i + sk_w ew e) (h + 1) lc' la' vals') →
    W (n + sk_w ew e) i h lc la vals
def sk_cl (ek : sk_F) (e g : Nat) : Prop := ((ek e = 0 ∨ ek e = 1) ∧ g = 0) ∨ (ek e = 13 ∧ g = 1) ∨ (ek e = 2 ∧ g = 2) ∨ (sk_bin ek e ∧ g = 2) ∨ (ek e = 14 ∧ g = 3)
def sk_nx (ek ex ey ez : sk_F) (e g g' p : Nat) : Prop := (ek e = 2 ∧ g = 0 ∧ g' = 2 ∧ ey e = nI p) ∨ ((ek e = 13 ∨ ek e = 14 ∨ sk_bin ek e) ∧ g = 0 ∧ g' = 1 ∧ ex e = nI p)
  ∨ ((ek e = 14 ∨ sk_bin ek e) ∧ g = 1 ∧ g' = 2 ∧ ey e = nI p) ∨ (ek e = 14 ∧ g = 2 ∧ g' = 3 ∧ ez e = nI p)
abbrev sk_WY : Type := Nat → Nat → Nat → Nat → Nat → sk_F → sk_F → sk_F → sk_F → Prop
/-- Y's rules: fuel, counter, depth, top, leak count, leaks, walk, at, found -/
def sk_RYc (M : Nat) (ek ex vs es : sk_F) (W : sk_WY) : Prop :=
  ∀ (n k d tp lc : Nat) (la wk at' fd : sk_F) (e g : Nat), e < M → wk d = nI e → at' d = nI g → sk_cl ek e g → k < 120 → d < 31 → tp < 31 → tp + sk_ar ek e ≤ 32 → lc < 2 ^ 30 →
    (∀ at2 : sk_F, (∀ j, j < d → at2 j = at' j) → W n (k + 1) d (tp + 1) (sk_lc ek e lc) (sk_la ek ex e (fd tp) lc la) wk at2 (upd fd tp (sk_nv ek ex vs es e (fd tp) (fd (tp + 1)) (fd (tp + 2))))) →
    W (n + 1) k (d + 1) (tp + sk_ar ek e) lc la wk at' fd
def sk_RYb (M : Nat) (ek ex ey ez : sk_F) (W : sk_WY) : Prop :=
  ∀ (n k d tp lc : Nat) (la wk at' fd : sk_F) (e g g' p : Nat), e < M → wk d = nI e → at' d = nI g → sk_nx ek ex ey ez e g g' p → k < 120 → d < 31 →
    (∀ wk2 at2 : sk_F, (∀ j, j < d + 1 → wk2 j = wk j) → (∀ j, j < d → at2 j = at' j) → at2 d = nI g' → wk2 (d + 1) = nI p → at2 (d + 1) = 0 → W n (k + 1) (d + 2) tp lc la wk2 at2 fd) →
    W (n + 1) k (d + 1) tp lc la wk at' fd
def sk_RY (M : Nat) (ek ex ey ez vs es : sk_F) (W : sk_WY) : Prop := sk_RYc M ek ex vs es W ∧ sk_RYb M ek ex ey ez W
def sk_EvY (M : Nat) (ek ex ey ez ew vs es : sk_F) (e lc : Nat) (la : sk_F) (v : Int32) (lc' : Nat) (la' : sk_F) : Prop :=
  ∀ (W : sk_WY), sk_RY M ek ex ey ez vs es W → ∀ (n k d tp : Nat) (wk at' fd : sk_F), wk d = nI e → at' d = 0 → d + sk_w ew e ≤ 31 → tp + sk_w ew e ≤ 31 → k + (2 * sk_w ew e - 1) ≤ 120 →
    (∀ wk2 at2 fd2 : sk_F, (∀ j, j < d → wk2 j = wk j ∧ at2 j = at' j) → (∀ j, j < tp → fd2 j = fd j) → fd2 tp = v → W n (k + (2 * sk_w ew e - 1)) d (tp + 1) lc' la' wk2 at2 fd2) →
    W (n + (2 * sk_w ew e - 1)) k (d + 1) tp lc la wk at' fd
theorem sk_bin_ne {ek : sk_F} {e : Nat} (h : sk_bin ek e) : ¬ ek e = 0 ∧ ¬ ek e = 1 ∧ ¬ ek e = 2 ∧ ¬ ek e = 13 ∧ ¬ ek e = 14 := by
  obtain ⟨k, h1, h2, h3⟩ := h
  rw [h3]
  have z : ∀ m : Nat, m < 20 → m ≠ k → ¬ nI k = nI m := fun m hm hn he => hn ((nI_eq (by omega) (by omega)).mp he).symm
  exact ⟨z 0 (by omega) (by omega), z 1 (by omega) (by omega), z 2 (by omega) (by omega), z 13 (by omega) (by omega), z 14 (by omega) (by omega)⟩
section
variable {ek ex vs es la : sk_F} {e lc : Nat} {a b c : Int32}
theorem sk_lc_n (h : ¬ ek e = 2) : sk_lc ek e lc = lc := if_neg h
theorem sk_lc_2 (h : ek e = 2) : sk_lc ek e lc = lc + 1 := if_pos h
theorem sk_la_n (h : ¬ ek e = 2) : sk_la ek ex e a lc la = la := if_neg h
theorem sk_la_2 (h : ek e = 2) : sk_la ek ex e a lc la = sk_put 200 lc la (16 + sk_at (ex e) a) := if_pos h
theorem sk_ar_0 (h : ek e = 0) : sk_ar ek e = 0 := by simp [sk_ar, h]
theorem sk_nv_0 (h : ek e = 0) : sk_nv ek ex vs es e a b c = ex e := by simp [sk_nv, h]
theorem sk_n2_0 (h : ek e = 0) : ¬ ek e = 2 := by rw [h]; decide
theorem sk_ar_1 (h : ek e = 1) : sk_ar ek e = 0 := by simp [sk_ar, h]
theorem sk_nv_1 (h : ek e = 1) : sk_nv ek ex vs es e a b c = vs (ex e).toNatClampNeg := by simp [sk_nv, h]
theorem sk_n2_1 (h : ek e = 1) : ¬ ek e = 2 := by rw [h]; decide
theorem sk_ar_2 (h : ek e = 2) : sk_ar ek e = 1 := by simp [sk_ar, h]
theorem sk_nv_2 (h : ek e = 2) : sk_nv ek ex vs es e a b c = es (sk_at (ex e) a).toNatClampNeg := by simp [sk_nv, h]
theorem sk_ar_13 (h : ek e = 13) : sk_ar ek e = 1 := by simp [sk_ar, h]
theorem sk_nv_13 (h : ek e = 13) : sk_nv ek ex vs es e a b c = (a ^^^ (-1)) := by simp [sk_nv, h]
theorem sk_n2_13 (h : ek e = 13) : ¬ ek e = 2 := by rw [h]; decide
theorem sk_ar_14 (h : ek e = 14) : sk_ar ek e = 3 := by simp [sk_ar, h]
theorem sk_nv_14 (h : ek e = 14) : sk_nv ek ex vs es e a b c = (if a = 0 then c else b) := by simp [sk_nv, h]
theorem sk_n2_14 (h : ek e = 14) : ¬ ek e = 2 := by rw [h]; decide
theorem sk_ar_b (h : sk_bin ek e) : sk_ar ek e = 2 := by
  obtain ⟨h0, h1, h2, h3, h4⟩ := sk_bin_ne h
  simp [sk_ar, h0, h1, h2, h3, h4]
theorem sk_nv_b (h : sk_bin ek e) : sk_nv ek ex vs es e a b c = sk_cb (ek e) a b := by
  obtain ⟨h0, h1, h2, h3, h4⟩ := sk_bin_ne h
  simp [sk_nv, h0, h1, h2, h3, h4]
theorem sk_n2_b (h : sk_bin ek e) : ¬ ek e = 2 := (sk_bin_ne h).2.2.1
end
section
variable {M : Nat} {ek ex ey ez ew px py pz od vs es : sk_F}
/-- X's last step of an expression whose parts' values lie on the stack -/
theorem sk_xl {E : Nat} {W : sk_WE} (R : sk_RX M ek ex ew od vs es E W) {n i h lc : Nat} {la vals0 vals : sk_F} {e : Nat} (he : e < M) (hi : od (30 * E + i) = nI e) (hi3 : i < sk_w ew E) (hh : h + sk_ar ek e ≤ 30) (hh3 : h < 30) (hlc : lc < 2 ^ 30)
    {v : Int32} (hv : sk_nv ek ex vs es e (vals h) (vals (h + 1)) (vals (h + 2)) = v) {lc' : Nat} {la' : sk_F} (hc : sk_lc ek e lc = lc') (ha : sk_la ek ex e (vals h) lc la = la')
    (hag : ∀ j, j < h → vals j = vals0 j) {i2 : Nat} (hi2 : i2 = i + 1)
    (C : ∀ vals' : sk_F, (∀ j, j < h → vals' j = vals0 j) → vals' h = v → W n i2 (h + 1) lc' la' vals') : W (n + 1) i (h + sk_ar ek e) lc la vals := by
  refine R n i h lc la vals e he hi hi3 hh hh3 hlc ?_
  rw [hv, hc, ha, ← hi2]
  exact C _ (fun j hj => by rw [pk_un (by omega)]; exact hag j hj) pk_us
theorem sk_segs {E i e p o : Nat} (h : sk_seg ew od (30 * E + i) e) (hp : sk_seg ew od (30 * e + o) p) (ho : o + sk_w ew p ≤ sk_w ew e) : sk_seg ew od (30 * E + (i + o)) p := by
  intro j hj
  rw [← hp j hj]
  have := h (o + j) (by omega)
  rw [← Nat.add_assoc, ← Nat.add_assoc] at this
  rw [← Nat.add_assoc]
  exact this
theorem sk_segl {E i e o : Nat} (h : sk_seg ew od (30 * E + i) e) (hp : od (30 * e + (sk_w ew e - 1)) = nI e) (ho : o + 1 = sk_w ew e) : od (30 * E + (i + o)) = nI e := by
  have := h o (by omega)
  rw [← Nat.add_assoc, this, ← hp]
  congr 2
  omega
/-- a part of an expression in Y's machine: one step to begin, then its own -/
theorem sk_yp {W : sk_WY} (R : sk_RY M ek ex ey ez vs es W) {n k d tp lc lc' : Nat} {la la' wk at' fd : sk_F} {e g g' p : Nat} {v : Int32} (he : e < M) (h1 : wk d = nI e) (h2 : at' d = nI g) (hx : sk_nx ek ex ey ez e g g' p) (hw : 1 ≤ sk_w ew p)
    (hp : sk_EvY M ek ex ey ez ew vs es p lc la v lc' la') (hd : d + 1 + sk_w ew p ≤ 31) (ht : tp + sk_w ew p ≤ 31) (hk : k + 2 * sk_w ew p ≤ 120)
    (C : ∀ wk2 at2 fd2 : sk_F, (∀ j, j < d → wk2 j = wk j ∧ at2 j = at' j) → wk2 d = nI e → at2 d = nI g' → (∀ j, j < tp → fd2 j = fd j) → fd2 tp = v → W n (k + 2 * sk_w ew p) (d + 1) (tp + 1) lc' la' wk2 at2 fd2) :
    W (n + 2 * sk_w ew p) k (d + 1) tp lc la wk at' fd := by
  have e1 : n + 2 * sk_w ew p = (n + (2 * sk_w ew p - 1)) + 1 := by omega
  rw [e1]
  refine R.2 _ k d tp lc la wk at' fd e g g' p he h1 h2 hx (by omega) (by omega) ?_
  intro wk2 at2 a1 a2 a3 a4 a5
  refine hp W R n (k + 1) (d + 1) tp wk2 at2 fd a4 a5 (by omega) (by omega) (by omega) ?_
  intro wk3 at3 fd3 b1 b2 b3
  have e2 : k + 1 + (2 * sk_w ew p - 1) = k + 2 * sk_w ew p := by omega
  rw [e2]
  refine C wk3 at3 fd3 ?_ ?_ ?_ b2 b3
  · intro j hj
    exact ⟨(b1 j (by omega)).1.trans (a1 j (by omega)), (b1 j (by omega)).2.trans (a2 j hj)⟩
  · exact (b1 d (by omega)).1.trans ((a1 d (by omega)).trans h1)
  · exact (b1 d (by omega)).2.trans a3
/-- Y's closing step -/
theorem sk_yl {W : sk_WY} (R : sk_RY M ek ex ey ez vs es W) {n k d tp lc lc' : Nat} {la la' wk0 at0 fd0 wk at' fd : sk_F} {e g : Nat} {v : Int32} (he : e < M) (h1 : wk d = nI e) (h2 : at' d = nI g) (hc : sk_cl ek e g) (hk : k < 120) (hd : d < 31) (ht : tp < 31) (ht2 : tp + sk_ar ek e ≤ 32) (hlc : lc < 2 ^ 30)
    (hv : sk_nv ek ex vs es e (fd tp) (fd (tp + 1)) (fd (tp + 2)) = v) (hlc' : sk_lc ek e lc = lc') (hla : sk_la ek ex e (fd tp) lc la = la')
    (a1 : ∀ j, j < d → wk j = wk0 j ∧ at' j = at0 j) (a2 : ∀ j, j < tp → fd j = fd0 j) {k2 : Nat} (hk2 : k2 = k + 1)
    (C : ∀ wk2 at2 fd2 : sk_F, (∀ j, j < d → wk2 j = wk0 j ∧ at2 j = at0 j) → (∀ j, j < tp → fd2 j = fd0 j) → fd2 tp = v → W n k2 d (tp + 1) lc' la' wk2 at2 fd2) :
    W (n + 1) k (d + 1) (tp + sk_ar ek e) lc la wk at' fd := by
  refine R.1 n k d tp lc la wk at' fd e g he h1 h2 hc hk hd ht ht2 hlc ?_
  intro at2 b1
  rw [hv, hlc', hla, ← hk2]
  exact C _ _ _ (fun j hj => ⟨(a1 j hj).1, (b1 j hj).trans (a1 j hj).2⟩) (fun j hj => by rw [pk_un (by omega)]; exact a2 j hj) pk_us
end
section
variable {M : Nat} {ek ex ey ez ew px py pz od vs es : sk_F}
theorem sk_w1 {e : Nat} (h : sk_node ek ex ey ez ew px py pz od e) : 1 ≤ sk_w ew e := by
  rcases h.2 with h | h | ⟨_, _, _, a, p, h⟩ | ⟨_, _, _, p, h⟩ | ⟨_, p, q, r, h⟩ | ⟨_, _, p, q, h⟩ <;> omega
theorem sk_c0 {e  lc : Nat} {la : sk_F} (he : e < M) (hk : ek e = 0) (hlc : lc + sk_w ew e ≤ 2 ^ 30) (hod : od (30 * e + (sk_w ew e - 1)) = nI e) (hw : sk_w ew e = 1) : sk_EvX M ek ex ew od vs es e lc la (ex e) (lc) la ∧ sk_EvY M ek ex ey ez ew vs es e lc la (ex e) (lc) la := by
  constructor
  · intro E W R n i h vals hs hi hh C
    have e1 : n + sk_w ew e = n + 1 := by omega
    rw [e1]
    have ag : ∀ j, j < h → vals j = vals j := fun _ _ => rfl
    have key := sk_xl R (n := n) (i := i) (h := h) (lc := lc) (la := la) (vals0 := vals) (vals := vals) he (by have z := sk_segl (o := 0) hs hod (by omega); first | exact z | (simpa only [Nat.add_assoc] using z)) (by omega) (by rw [sk_ar_0 hk]; omega) (by omega) (by omega) (v := (ex e)) (by rw [sk_nv_0 hk]) (sk_lc_n (sk_n2_0 hk)) (sk_la_n (sk_n2_0 hk)) ag (i2 := i + sk_w ew e) (by omega) C
    rw [sk_ar_0 hk] at key
    exact key
  · intro W R n k d tp wk at' fd h1 h2 hd ht hkk C
    have e1 : n + (2 * sk_w ew e - 1) = n + 1 := by omega
    rw [e1]
    have ag : ∀ j, j < d → wk j = wk j ∧ at' j = at' j := fun _ _ => ⟨rfl, rfl⟩
    have ag2 : ∀ j, j < tp → fd j = fd j := fun _ _ => rfl
    have key := sk_yl R (n := n) (k := k) (d := d) (tp := tp) (lc := lc) (la := la) (wk0 := wk) (at0 := at') (fd0 := fd) (wk := wk) (at' := at') (fd := fd) he h1 (h2.trans nI_0.symm) (Or.inl ⟨Or.inl hk, rfl⟩) (by omega) (by omega) (by omega) (by rw [sk_ar_0 hk]; omega) (by omega) (v := (ex e)) (by rw [sk_nv_0 hk]) (sk_lc_n (sk_n2_0 hk)) (sk_la_n (sk_n2_0 hk)) ag ag2 (k2 := k + (2 * sk_w ew e - 1)) (by omega) C
    rw [sk_ar_0 hk] at key
    exact key
theorem sk_c1 {e  lc : Nat} {la : sk_F} (he : e < M) (hk : ek e = 1) (hlc : lc + sk_w ew e ≤ 2 ^ 30) (hod : od (30 * e + (sk_w ew e - 1)) = nI e) (hw : sk_w ew e = 1) : sk_EvX M ek ex ew od vs es e lc la (vs (ex e).toNatClampNeg) (lc) la ∧ sk_EvY M ek ex ey ez ew vs es e lc la (vs (ex e).toNatClampNeg) (lc) la := by
  constructor
  · intro E W R n i h vals hs hi hh C
    have e1 : n + sk_w ew e = n + 1 := by omega
    rw [e1]
    have ag : ∀ j, j < h → vals j = vals j := fun _ _ => rfl
    have key := sk_xl R (n := n) (i := i) (h := h) (lc := lc) (la := la) (vals0 := vals) (vals := vals) he (by have z := sk_segl (o := 0) hs hod (by omega); first | exact z | (simpa only [Nat.add_assoc] using z)) (by omega) (by rw [sk_ar_1 hk]; omega) (by omega) (by omega) (v := (vs (ex e).toNatClampNeg)) (by rw [sk_nv_1 hk]) (sk_lc_n (sk_n2_1 hk)) (sk_la_n (sk_n2_1 hk)) ag (i2 := i + sk_w ew e) (by omega) C
    rw [sk_ar_1 hk] at key
    exact key
  · intro W R n k d tp wk at' fd h1 h2 hd ht hkk C
    have e1 : n + (2 * sk_w ew e - 1) = n + 1 := by omega
    rw [e1]
    have ag : ∀ j, j < d → wk j = wk j ∧ at' j = at' j := fun _ _ => ⟨rfl, rfl⟩
    have ag2 : ∀ j, j < tp → fd j = fd j := fun _ _ => rfl
    have key := sk_yl R (n := n) (k := k) (d := d) (tp := tp) (lc := lc) (la := la) (wk0 := wk) (at0 := at') (fd0 := fd) (wk := wk) (at' := at') (fd := fd) he h1 (h2.trans nI_0.symm) (Or.inl ⟨Or.inr hk, rfl⟩) (by omega) (by omega) (by omega) (by rw [sk_ar_1 hk]; omega) (by omega) (v := (vs (ex e).toNatClampNeg)) (by rw [sk_nv_1 hk]) (sk_lc_n (sk_n2_1 hk)) (sk_la_n (sk_n2_1 hk)) ag ag2 (k2 := k + (2 * sk_w ew e - 1)) (by omega) C
    rw [sk_ar_1 hk] at key
    exact key
theorem sk_c2 {e p lc : Nat} {la : sk_F} (he : e < M) (hk : ek e = 2) (hlc : lc + sk_w ew e ≤ 2 ^ 30) (hod : od (30 * e + (sk_w ew e - 1)) = nI e) (hx0 : sk_nx ek ex ey ez e 0 2 p) (w0 : 1 ≤ sk_w ew p) (sg0 : sk_seg ew od (30 * e) p) (hw : sk_w ew e = sk_w ew p + 1) {v0 : Int32} {lc0 : Nat} {la0 : sk_F} (l0 : lc0 ≤ lc + sk_w ew p) (X0 : sk_EvX M ek ex ew od vs es p lc la v0 lc0 la0) (Y0 : sk_EvY M ek ex ey ez ew vs es p lc la v0 lc0 la0) : sk_EvX M ek ex ew od vs es e lc la (es (sk_at (ex e) v0).toNatClampNeg) (lc0 + 1) (sk_put 200 lc0 la0 (16 + sk_at (ex e) v0)) ∧ sk_EvY M ek ex ey ez ew vs es e lc la (es (sk_at (ex e) v0).toNatClampNeg) (lc0 + 1) (sk_put 200 lc0 la0 (16 + sk_at (ex e) v0)) := by
  constructor
  · intro E W R n i h vals hs hi hh C
    have e1 : n + sk_w ew e = n + 1 + sk_w ew p := by omega
    rw [e1]
    refine X0 E W R (n + 1) (i) (h) vals (by have z := sk_segs (o := 0) hs (by first | exact sg0 | (rw [← Nat.add_assoc]; exact sg0)) (by omega); first | exact z | (simpa only [Nat.add_assoc] using z)) (by omega) (by omega) ?_
    intro vals0 a0 b0
    have f0 : vals0 (h) = v0 := b0
    have ag : ∀ j, j < h → vals0 j = vals j := fun j hj => a0 j hj
    have key := sk_xl R (n := n) (i := i + sk_w ew p) (h := h) (lc := lc0) (la := la0) (vals0 := vals) (vals := vals0) he (by have z := sk_segl (o := sk_w ew p) hs hod (by omega); first | exact z | (simpa only [Nat.add_assoc] using z)) (by omega) (by rw [sk_ar_2 hk]; omega) (by omega) (by omega) (v := (es (sk_at (ex e) v0).toNatClampNeg)) (by rw [sk_nv_2 hk, f0]) (sk_lc_2 hk) (by rw [sk_la_2 hk, f0]) ag (i2 := i + sk_w ew e) (by omega) C
    rw [sk_ar_2 hk] at key
    exact key
  · intro W R n k d tp wk at' fd h1 h2 hd ht hkk C
    have e1 : n + (2 * sk_w ew e - 1) = n + 1 + 2 * sk_w ew p := by omega
    rw [e1]
    refine sk_yp R (k := k) (d := d) (tp := tp) he h1 (h2.trans nI_0.symm) hx0 w0 Y0 (by omega) (by omega) (by omega) ?_
    intro wk0 at0 fd0 a0 c0 d0 b0 g0
    have f0 : fd0 (tp) = v0 := g0
    have ag : ∀ j, j < d → wk0 j = wk j ∧ at0 j = at' j := fun j hj => ⟨(a0 j hj).1, (a0 j hj).2⟩
    have ag2 : ∀ j, j < tp → fd0 j = fd j := fun j hj => b0 j hj
    have key := sk_yl R (n := n) (k := k + 2 * sk_w ew p) (d := d) (tp := tp) (lc := lc0) (la := la0) (wk0 := wk) (at0 := at') (fd0 := fd) (wk := wk0) (at' := at0) (fd := fd0) he c0 d0 (Or.inr (Or.inr (Or.inl ⟨hk, rfl⟩))) (by omega) (by omega) (by omega) (by rw [sk_ar_2 hk]; omega) (by omega) (v := (es (sk_at (ex e) v0).toNatClampNeg)) (by rw [sk_nv_2 hk, f0]) (sk_lc_2 hk) (by rw [sk_la_2 hk, f0]) ag ag2 (k2 := k + (2 * sk_w ew e - 1)) (by omega) C
    rw [sk_ar_2 hk] at key
    exact key
theorem sk_c13 {e p lc : Nat} {la : sk_F} (he : e < M) (hk : ek e = 13) (hlc : lc + sk_w ew e ≤ 2 ^ 30) (hod : od (30 * e + (sk_w ew e - 1)) = nI e) (hx0 : sk_nx ek ex ey ez e 0 1 p) (w0 : 1 ≤ sk_w ew p) (sg0 : sk_seg ew od (30 * e) p) (hw : sk_w ew e = sk_w ew p + 1) {v0 : Int32} {lc0 : Nat} {la0 : sk_F} (l0 : lc0 ≤ lc + sk_w ew p) (X0 : sk_EvX M ek ex ew od vs es p lc la v0 lc0 la0) (Y0 : sk_EvY M ek ex ey ez ew vs es p lc la v0 lc0 la0) : sk_EvX M ek ex ew od vs es e lc la (v0 ^^^ (-1)) (lc0) la0 ∧ sk_EvY M ek ex ey ez ew vs es e lc la (v0 ^^^ (-1)) (lc0) la0 := by
  constructor
  · intro E W R n i h vals hs hi hh C
    have e1 : n + sk_w ew e = n + 1 + sk_w ew p := by omega
    rw [e1]
    refine X0 E W R (n + 1) (i) (h) vals (by have z := sk_segs (o := 0) hs (by first | exact sg0 | (rw [← Nat.add_assoc]; exact sg0)) (by omega); first | exact z | (simpa only [Nat.add_assoc] using z)) (by omega) (by omega) ?_
    intro vals0 a0 b0
    have f0 : vals0 (h) = v0 := b0
    have ag : ∀ j, j < h → vals0 j = vals j := fun j hj => a0 j hj
    have key := sk_xl R (n := n) (i := i + sk_w ew p) (h := h) (lc := lc0) (la := la0) (vals0 := vals) (vals := vals0) he (by have z := sk_segl (o := sk_w ew p) hs hod (by omega); first | exact z | (simpa only [Nat.add_assoc] using z)) (by omega) (by rw [sk_ar_13 hk]; omega) (by omega) (by omega) (v := (v0 ^^^ (-1))) (by rw [sk_nv_13 hk, f0]) (sk_lc_n (sk_n2_13 hk)) (sk_la_n (sk_n2_13 hk)) ag (i2 := i + sk_w ew e) (by omega) C
    rw [sk_ar_13 hk] at key
    exact key
  · intro W R n k d tp wk at' fd h1 h2 hd ht hkk C
    have e1 : n + (2 * sk_w ew e - 1) = n + 1 + 2 * sk_w ew p := by omega
    rw [e1]
    refine sk_yp R (k := k) (d := d) (tp := tp) he h1 (h2.trans nI_0.symm) hx0 w0 Y0 (by omega) (by omega) (by omega) ?_
    intro wk0 at0 fd0 a0 c0 d0 b0 g0
    have f0 : fd0 (tp) = v0 := g0
    have ag : ∀ j, j < d → wk0 j = wk j ∧ at0 j = at' j := fun j hj => ⟨(a0 j hj).1, (a0 j hj).2⟩
    have ag2 : ∀ j, j < tp → fd0 j = fd j := fun j hj => b0 j hj
    have key := sk_yl R (n := n) (k := k + 2 * sk_w ew p) (d := d) (tp := tp) (lc := lc0) (la := la0) (wk0 := wk) (at0 := at') (fd0 := fd) (wk := wk0) (at' := at0) (fd := fd0) he c0 d0 (Or.inr (Or.inl ⟨hk, rfl⟩)) (by omega) (by omega) (by omega) (by rw [sk_ar_13 hk]; omega) (by omega) (v := (v0 ^^^ (-1))) (by rw [sk_nv_13 hk, f0]) (sk_lc_n (sk_n2_13 hk)) (sk_la_n (sk_n2_13 hk)) ag ag2 (k2 := k + (2 * sk_w ew e - 1)) (by omega) C
    rw [sk_ar_13 hk] at key
    exact key
theorem sk_c14 {e p q r lc : Nat} {la : sk_F} (he : e < M) (hk : ek e = 14) (hlc : lc + sk_w ew e ≤ 2 ^ 30) (hod : od (30 * e + (sk_w ew e - 1)) = nI e) (hx0 : sk_nx ek ex ey ez e 0 1 p) (w0 : 1 ≤ sk_w ew p) (sg0 : sk_seg ew od (30 * e) p) (hx1 : sk_nx ek ex ey ez e 1 2 q) (w1 : 1 ≤ sk_w ew q) (sg1 : sk_seg ew od (30 * e + sk_w ew p) q) (hx2 : sk_nx ek ex ey ez e 2 3 r) (w2 : 1 ≤ sk_w ew r) (sg2 : sk_seg ew od (30 * e + sk_w ew p + sk_w ew q) r) (hw : sk_w ew e = sk_w ew p + sk_w ew q + sk_w ew r + 1) {v0 : Int32} {lc0 : Nat} {la0 : sk_F} (l0 : lc0 ≤ lc + sk_w ew p) (X0 : sk_EvX M ek ex ew od vs es p lc la v0 lc0 la0) (Y0 : sk_EvY M ek ex ey ez ew vs es p lc la v0 lc0 la0) {v1 : Int32} {lc1 : Nat} {la1 : sk_F} (l1 : lc1 ≤ lc0 + sk_w ew q) (X1 : sk_EvX M ek ex ew od vs es q lc0 la0 v1 lc1 la1) (Y1 : sk_EvY M ek ex ey ez ew vs es q lc0 la0 v1 lc1 la1) {v2 : Int32} {lc2 : Nat} {la2 : sk_F} (l2 : lc2 ≤ lc1 + sk_w ew r) (X2 : sk_EvX M ek ex ew od vs es r lc1 la1 v2 lc2 la2) (Y2 : sk_EvY M ek ex ey ez ew vs es r lc1 la1 v2 lc2 la2) : sk_EvX M ek ex ew od vs es e lc la (if v0 = 0 then v2 else v1) (lc2) la2 ∧ sk_EvY M ek ex ey ez ew vs es e lc la (if v0 = 0 then v2 else v1) (lc2) la2 := by
  constructor
  · intro E W R n i h vals hs hi hh C
    have e1 : n + sk_w ew e = n + 1 + sk_w ew r + sk_w ew q + sk_w ew p := by omega
    rw [e1]
    refine X0 E W R (n + 1 + sk_w ew r + sk_w ew q) (i) (h) vals (by have z := sk_segs (o := 0) hs (by first | exact sg0 | (rw [← Nat.add_assoc]; exact sg0)) (by omega); first | exact z | (simpa only [Nat.add_assoc] using z)) (by omega) (by omega) ?_
    intro vals0 a0 b0
    refine X1 E W R (n + 1 + sk_w ew r) (i + sk_w ew p) (h + 1) vals0 (by have z := sk_segs (o := sk_w ew p) hs (by first | exact sg1 | (rw [← Nat.add_assoc]; exact sg1)) (by omega); first | exact z | (simpa only [Nat.add_assoc] using z)) (by omega) (by omega) ?_
    intro vals1 a1 b1
    refine X2 E W R (n + 1) (i + sk_w ew p + sk_w ew q) (h + 2) vals1 (by have z := sk_segs (o := sk_w ew p + sk_w ew q) hs (by first | exact sg2 | (simpa only [Nat.add_assoc] using sg2)) (by omega); first | exact z | (simpa only [Nat.add_assoc] using z)) (by omega) (by omega) ?_
    intro vals2 a2 b2
    have f0 : vals2 (h) = v0 := (a2 (h) (by omega)).trans ((a1 (h) (by omega)).trans (b0))
    have f1 : vals2 (h + 1) = v1 := (a2 (h + 1) (by omega)).trans (b1)
    have f2 : vals2 (h + 2) = v2 := b2
    have ag : ∀ j, j < h → vals2 j = vals j := fun j hj => (a2 j (by omega)).trans ((a1 j (by omega)).trans (a0 j hj))
    have key := sk_xl R (n := n) (i := i + sk_w ew p + sk_w ew q + sk_w ew r) (h := h) (lc := lc2) (la := la2) (vals0 := vals) (vals := vals2) he (by have z := sk_segl (o := sk_w ew p + sk_w ew q + sk_w ew r) hs hod (by omega); first | exact z | (simpa only [Nat.add_assoc] using z)) (by omega) (by rw [sk_ar_14 hk]; omega) (by omega) (by omega) (v := (if v0 = 0 then v2 else v1)) (by rw [sk_nv_14 hk, f0, f1, f2]) (sk_lc_n (sk_n2_14 hk)) (sk_la_n (sk_n2_14 hk)) ag (i2 := i + sk_w ew e) (by omega) C
    rw [sk_ar_14 hk] at key
    exact key
  · intro W R n k d tp wk at' fd h1 h2 hd ht hkk C
    have e1 : n + (2 * sk_w ew e - 1) = n + 1 + 2 * sk_w ew r + 2 * sk_w ew q + 2 * sk_w ew p := by omega
    rw [e1]
    refine sk_yp R (k := k) (d := d) (tp := tp) he h1 (h2.trans nI_0.symm) hx0 w0 Y0 (by omega) (by omega) (by omega) ?_
    intro wk0 at0 fd0 a0 c0 d0 b0 g0
    refine sk_yp R (k := k + 2 * sk_w ew p) (d := d) (tp := tp + 1) he c0 d0 hx1 w1 Y1 (by omega) (by omega) (by omega) ?_
    intro wk1 at1 fd1 a1 c1 d1 b1 g1
    refine sk_yp R (k := k + 2 * sk_w ew p + 2 * sk_w ew q) (d := d) (tp := tp + 2) he c1 d1 hx2 w2 Y2 (by omega) (by omega) (by omega) ?_
    intro wk2 at2 fd2 a2 c2 d2 b2 g2
    have f0 : fd2 (tp) = v0 := (b2 (tp) (by omega)).trans ((b1 (tp) (by omega)).trans (g0))
    have f1 : fd2 (tp + 1) = v1 := (b2 (tp + 1) (by omega)).trans (g1)
    have f2 : fd2 (tp + 2) = v2 := g2
    have ag : ∀ j, j < d → wk2 j = wk j ∧ at2 j = at' j := fun j hj => ⟨(a2 j hj).1.trans ((a1 j hj).1.trans ((a0 j hj).1)), (a2 j hj).2.trans ((a1 j hj).2.trans ((a0 j hj).2))⟩
    have ag2 : ∀ j, j < tp → fd2 j = fd j := fun j hj => (b2 j (by omega)).trans ((b1 j (by omega)).trans (b0 j hj))
    have key := sk_yl R (n := n) (k := k + 2 * sk_w ew p + 2 * sk_w ew q + 2 * sk_w ew r) (d := d) (tp := tp) (lc := lc2) (la := la2) (wk0 := wk) (at0 := at') (fd0 := fd) (wk := wk2) (at' := at2) (fd := fd2) he c2 d2 (Or.inr (Or.inr (Or.inr (Or.inr ⟨hk, rfl⟩)))) (by omega) (by omega) (by omega) (by rw [sk_ar_14 hk]; omega) (by omega) (v := (if v0 = 0 then v2 else v1)) (by rw [sk_nv_14 hk, f0, f1, f2]) (sk_lc_n (sk_n2_14 hk)) (sk_la_n (sk_n2_14 hk)) ag ag2 (k2 := k + (2 * sk_w ew e - 1)) (by omega) C
    rw [sk_ar_14 hk] at key
    exact key
theorem sk_cbn {e p q lc : Nat} {la : sk_F} (he : e < M) (hk : sk_bin ek e) (hlc : lc + sk_w ew e ≤ 2 ^ 30) (hod : od (30 * e + (sk_w ew e - 1)) = nI e) (hx0 : sk_nx ek ex ey ez e 0 1 p) (w0 : 1 ≤ sk_w ew p) (sg0 : sk_seg ew od (30 * e) p) (hx1 : sk_nx ek ex ey ez e 1 2 q) (w1 : 1 ≤ sk_w ew q) (sg1 : sk_seg ew od (30 * e + sk_w ew p) q) (hw : sk_w ew e = sk_w ew p + sk_w ew q + 1) {v0 : Int32} {lc0 : Nat} {la0 : sk_F} (l0 : lc0 ≤ lc + sk_w ew p) (X0 : sk_EvX M ek ex ew od vs es p lc la v0 lc0 la0) (Y0 : sk_EvY M ek ex ey ez ew vs es p lc la v0 lc0 la0) {v1 : Int32} {lc1 : Nat} {la1 : sk_F} (l1 : lc1 ≤ lc0 + sk_w ew q) (X1 : sk_EvX M ek ex ew od vs es q lc0 la0 v1 lc1 la1) (Y1 : sk_EvY M ek ex ey ez ew vs es q lc0 la0 v1 lc1 la1) : sk_EvX M ek ex ew od vs es e lc la (sk_cb (ek e) v0 v1) (lc1) la1 ∧ sk_EvY M ek ex ey ez ew vs es e lc la (sk_cb (ek e) v0 v1) (lc1) la1 := by
  constructor
  · intro E W R n i h vals hs hi hh C
    have e1 : n + sk_w ew e = n + 1 + sk_w ew q + sk_w ew p := by omega
    rw [e1]
    refine X0 E W R (n + 1 + sk_w ew q) (i) (h) vals (by have z := sk_segs (o := 0) hs (by first | exact sg0 | (rw [← Nat.add_assoc]; exact sg0)) (by omega); first | exact z | (simpa only [Nat.add_assoc] using z)) (by omega) (by omega) ?_
    intro vals0 a0 b0
    refine X1 E W R (n + 1) (i + sk_w ew p) (h + 1) vals0 (by have z := sk_segs (o := sk_w ew p) hs (by first | exact sg1 | (rw [← Nat.add_assoc]; exact sg1)) (by omega); first | exact z | (simpa only [Nat.add_assoc] using z)) (by omega) (by omega) ?_
    intro vals1 a1 b1
    have f0 : vals1 (h) = v0 := (a1 (h) (by omega)).trans (b0)
    have f1 : vals1 (h + 1) = v1 := b1
    have ag : ∀ j, j < h → vals1 j = vals j := fun j hj => (a1 j (by omega)).trans (a0 j hj)
    have key := sk_xl R (n := n) (i := i + sk_w ew p + sk_w ew q) (h := h) (lc := lc1) (la := la1) (vals0 := vals) (vals := vals1) he (by have z := sk_segl (o := sk_w ew p + sk_w ew q) hs hod (by omega); first | exact z | (simpa only [Nat.add_assoc] using z)) (by omega) (by rw [sk_ar_b hk]; omega) (by omega) (by omega) (v := (sk_cb (ek e) v0 v1)) (by rw [sk_nv_b hk, f0, f1]) (sk_lc_n (sk_n2_b hk)) (sk_la_n (sk_n2_b hk)) ag (i2 := i + sk_w ew e) (by omega) C
    rw [sk_ar_b hk] at key
    exact key
  · intro W R n k d tp wk at' fd h1 h2 hd ht hkk C
    have e1 : n + (2 * sk_w ew e - 1) = n + 1 + 2 * sk_w ew q + 2 * sk_w ew p := by omega
    rw [e1]
    refine sk_yp R (k := k) (d := d) (tp := tp) he h1 (h2.trans nI_0.symm) hx0 w0 Y0 (by omega) (by omega) (by omega) ?_
    intro wk0 at0 fd0 a0 c0 d0 b0 g0
    refine sk_yp R (k := k + 2 * sk_w ew p) (d := d) (tp := tp + 1) he c0 d0 hx1 w1 Y1 (by omega) (by omega) (by omega) ?_
    intro wk1 at1 fd1 a1 c1 d1 b1 g1
    have f0 : fd1 (tp) = v0 := (b1 (tp) (by omega)).trans (g0)
    have f1 : fd1 (tp + 1) = v1 := g1
    have ag : ∀ j, j < d → wk1 j = wk j ∧ at1 j = at' j := fun j hj => ⟨(a1 j hj).1.trans ((a0 j hj).1), (a1 j hj).2.trans ((a0 j hj).2)⟩
    have ag2 : ∀ j, j < tp → fd1 j = fd j := fun j hj => (b1 j (by omega)).trans (b0 j hj)
    have key := sk_yl R (n := n) (k := k + 2 * sk_w ew p + 2 * sk_w ew q) (d := d) (tp := tp) (lc := lc1) (la := la1) (wk0 := wk) (at0 := at') (fd0 := fd) (wk := wk1) (at' := at1) (fd := fd1) he c1 d1 (Or.inr (Or.inr (Or.inr (Or.inl ⟨hk, rfl⟩)))) (by omega) (by omega) (by omega) (by rw [sk_ar_b hk]; omega) (by omega) (v := (sk_cb (ek e) v0 v1)) (by rw [sk_nv_b hk, f0, f1]) (sk_lc_n (sk_n2_b hk)) (sk_la_n (sk_n2_b hk)) ag ag2 (k2 := k + (2 * sk_w ew e - 1)) (by omega) C
    rw [sk_ar_b hk] at key
    exact key
/-- every expression has one value and one list of leaks, on both machines -/
theorem sk_E_all (H : ∀ e, e < M → sk_node ek ex ey ez ew px py pz od e) : ∀ e, e < M → ∀ (lc : Nat) (la : sk_F), lc + sk_w ew e ≤ 2 ^ 30 →
    ∃ (v : Int32) (lc' : Nat) (la' : sk_F), lc' ≤ lc + sk_w ew e ∧ sk_EvX M ek ex ew od vs es e lc la v lc' la' ∧ sk_EvY M ek ex ey ez ew vs es e lc la v lc' la' := by
  intro e
  induction e using Nat.strongRecOn with
  | ind e ih =>
    intro he lc la hlc
    obtain ⟨⟨_, hw30, hod⟩, hc⟩ := H e he
    rcases hc with ⟨hk, hw, _⟩ | ⟨hk, hw, _⟩ | ⟨hk, _, _, a, p, ha, hp, x1, x2, _, hw, s0⟩ | ⟨hk, _, _, p, hp, x1, _, hw, s0⟩ | ⟨hk, p, q, r, hp, hq, hr, x1, x2, x3, _, _, _, hw, s0, s1, s2⟩ | ⟨hk, _, p, q, hp, hq, x1, x2, _, _, hw, s0, s1⟩
    · exact ⟨_, _, _, by omega, sk_c0 he hk hlc hod hw⟩
    · exact ⟨_, _, _, by omega, sk_c1 he hk hlc hod hw⟩
    · obtain ⟨v0, lc0, la0, l0, X0, Y0⟩ := ih p hp (by omega) lc la (by omega)
      exact ⟨_, lc0 + 1, _, by omega, sk_c2 he hk hlc hod (Or.inl ⟨hk, rfl, rfl, x2⟩) (sk_w1 (H p (by omega))) s0 hw l0 X0 Y0⟩
    · obtain ⟨v0, lc0, la0, l0, X0, Y0⟩ := ih p hp (by omega) lc la (by omega)
      exact ⟨_, lc0, _, by omega, sk_c13 he hk hlc hod (Or.inr (Or.inl ⟨Or.inl hk, rfl, rfl, x1⟩)) (sk_w1 (H p (by omega))) s0 hw l0 X0 Y0⟩
    · obtain ⟨v0, lc0, la0, l0, X0, Y0⟩ := ih p hp (by omega) lc la (by omega)
      obtain ⟨v1, lc1, la1, l1, X1, Y1⟩ := ih q hq (by omega) lc0 la0 (by omega)
      obtain ⟨v2, lc2, la2, l2, X2, Y2⟩ := ih r hr (by omega) lc1 la1 (by omega)
      exact ⟨_, lc2, _, by omega, sk_c14 he hk hlc hod (Or.inr (Or.inl ⟨Or.inr (Or.inl hk), rfl, rfl, x1⟩)) (sk_w1 (H p (by omega))) s0 (Or.inr (Or.inr (Or.inl ⟨Or.inl hk, rfl, rfl, x2⟩))) (sk_w1 (H q (by omega))) s1 (Or.inr (Or.inr (Or.inr ⟨hk, rfl, rfl, x3⟩))) (sk_w1 (H r (by omega))) s2 hw l0 X0 Y0 l1 X1 Y1 l2 X2 Y2⟩
    · obtain ⟨v0, lc0, la0, l0, X0, Y0⟩ := ih p hp (by omega) lc la (by omega)
      obtain ⟨v1, lc1, la1, l1, X1, Y1⟩ := ih q hq (by omega) lc0 la0 (by omega)
      exact ⟨_, lc1, _, by omega, sk_cbn he hk hlc hod (Or.inr (Or.inl ⟨Or.inr (Or.inr hk), rfl, rfl, x1⟩)) (sk_w1 (H p (by omega))) s0 (Or.inr (Or.inr (Or.inl ⟨Or.inr hk, rfl, rfl, x2⟩))) (sk_w1 (H q (by omega))) s1 hw l0 X0 Y0 l1 X1 Y1⟩
end
