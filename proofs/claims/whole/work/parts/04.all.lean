/-! 04: statements as they must be; what is safe; every statement does the same on both machines -/
def sk_stm (M : Nat) (ew sk sx sy sz sw dp : sk_F) (s : Nat) : Prop :=
  (sw s = nI (sk_w sw s) ∧ dp s = nI (sk_w dp s) ∧ 1 ≤ sk_w sw s ∧ sk_w sw s ≤ 30 ∧ sk_w dp s ≤ 3) ∧
  ((sk s = 0 ∧ ∃ x p, x < 8 ∧ p < M ∧ sx s = nI x ∧ sy s = nI p)
  ∨ (sk s = 1 ∧ ∃ a p q, a < 2 ∧ p < M ∧ q < M ∧ sx s = nI a ∧ sy s = nI p ∧ sz s = nI q ∧ sk_w ew p + sk_w ew q ≤ 30)
  ∨ (sk s = 2 ∧ ∃ p q, p < s ∧ q < s ∧ sx s = nI p ∧ sy s = nI q ∧ sk_w sw s = sk_w sw p + sk_w sw q + 1 ∧ sk_w dp p ≤ sk_w dp s ∧ sk_w dp q ≤ sk_w dp s)
  ∨ (sk s = 3 ∧ ∃ p q, p < M ∧ q < s ∧ sx s = nI p ∧ sy s = nI q ∧ sk_w dp q ≤ sk_w dp s ∧ sk_w sw q + 1 ≤ sk_w sw s ∧ (sz s = -1 ∨ ∃ z, z < s ∧ sz s = nI z ∧ sk_w dp z ≤ sk_w dp s ∧ sk_w sw q + sk_w sw z + 1 ≤ sk_w sw s))
  ∨ (sk s = 4 ∧ ∃ x q, x ≤ 6 ∧ q < s ∧ sx s = nI x ∧ sy s = nI q ∧ sk_w sw q + 1 ≤ sk_w sw s ∧ sk_w dp s = sk_w dp q + 1)
  ∨ (sk s = 5 ∧ ∃ p q, p < M ∧ q < s ∧ sx s = nI p ∧ sy s = nI q ∧ sk_w sw q + 1 ≤ sk_w sw s ∧ sk_w dp s = sk_w dp q + 1)
  ∨ (sk s = 6 ∧ ∃ p, p < M ∧ sx s = nI p))
def sk_in (so sh : sk_F) (hd : Bool) (x : Int32) : Prop := x = -1 ∨ ¬ (if hd then sh x.toNatClampNeg else so x.toNatClampNeg) = 0
/-- statement s is safe in a place (hd: the hidden one) -/
def sk_sf (lab sec rdo sk sx sy sz so sh : sk_F) (hd : Bool) (s : Nat) : Prop :=
  if sk s = 0 then ¬ rdo (sy s).toNatClampNeg = 0 ∧ (¬ lab (sx s).toNatClampNeg = 0 ∨ (hd = false ∧ sec (sy s).toNatClampNeg = 0))
  else if sk s = 1 then ¬ rdo (sy s).toNatClampNeg = 0 ∧ ¬ rdo (sz s).toNatClampNeg = 0 ∧ sec (sy s).toNatClampNeg = 0 ∧ (¬ lab (8 + sx s).toNatClampNeg = 0 ∨ (hd = false ∧ sec (sz s).toNatClampNeg = 0))
  else if sk s = 2 then sk_in so sh hd (sx s) ∧ sk_in so sh hd (sy s)
  else if sk s = 3 then ¬ rdo (sx s).toNatClampNeg = 0 ∧ sk_in so sh (hd || decide (¬ sec (sx s).toNatClampNeg = 0)) (sy s) ∧ sk_in so sh (hd || decide (¬ sec (sx s).toNatClampNeg = 0)) (sz s)
  else if sk s = 4 then sk_in so sh hd (sy s)
  else if sk s = 5 then hd = false ∧ ¬ rdo (sx s).toNatClampNeg = 0 ∧ sec (sx s).toNatClampNeg = 0 ∧ sk_in so sh false (sy s)
  else hd = false ∧ ¬ rdo (sx s).toNatClampNeg = 0 ∧ sec (sx s).toNatClampNeg = 0
def sk_sfe (lab sec rdo sk sx sy sz so sh : sk_F) (s : Nat) : Prop := (¬ so s = 0 ↔ sk_sf lab sec rdo sk sx sy sz so sh false s) ∧ (¬ sh s = 0 ↔ sk_sf lab sec rdo sk sx sy sz so sh true s)
def sk_ok (so sh : sk_F) (s : Nat) (r : Bool) : Prop := (r = true ∧ ¬ so s = 0) ∨ ¬ sh s = 0
section
variable {M N : Nat} {ek ex ey ez ew px py pz od lab sec rdo sk sx sy sz sw dp so sh : sk_F}
theorem sk_in_n {hd : Bool} {p : Nat} (hp : p < 50) (h : sk_in so sh hd (nI p)) : ¬ (if hd then sh p else so p) = 0 := by
  rcases h with h | h
  · exact absurd h (sk_m1 (by omega))
  · rw [nI_clamp (by omega)] at h
    exact h
theorem sk_ok2 {s p q : Nat} {r : Bool} (hf : sk_sfe lab sec rdo sk sx sy sz so sh s) (hp : p < 50) (hq : q < 50) (hk : sk s = 2) (h1 : sx s = nI p) (h2 : sy s = nI q) (h : sk_ok so sh s r) : sk_ok so sh p r ∧ sk_ok so sh q r := by
  rcases h with ⟨hr, h⟩ | h
  · have f := hf.1.mp h
    simp only [sk_sf, hk, h1, h2] at f
    exact ⟨Or.inl ⟨hr, sk_in_n hp f.1⟩, Or.inl ⟨hr, sk_in_n hq f.2⟩⟩
  · have f := hf.2.mp h
    simp only [sk_sf, hk, h1, h2] at f
    exact ⟨Or.inr (sk_in_n hp f.1), Or.inr (sk_in_n hq f.2)⟩
theorem sk_ok3s {s p q : Nat} {r : Bool} (hf : sk_sfe lab sec rdo sk sx sy sz so sh s) (hp : p < 50) (hq : q < 50) (hk : sk s = 3) (h1 : sx s = nI p) (h2 : sy s = nI q) (hs : ¬ sec p = 0) (h : sk_ok so sh s r) : ¬ sh q = 0 ∧ ∀ z, z < 50 → sz s = nI z → ¬ sh z = 0 := by
  rcases h with ⟨hr, h⟩ | h
  · have f := hf.1.mp h
    simp only [sk_sf, hk, h1, h2, nI_clamp (show p < 2 ^ 31 by omega), hs] at f
    exact ⟨sk_in_n (hd := true) hq f.2.1, fun z hz hz2 => sk_in_n (hd := true) hz (hz2 ▸ f.2.2)⟩
  · have f := hf.2.mp h
    simp only [sk_sf, hk, h1, h2, nI_clamp (show p < 2 ^ 31 by omega), hs] at f
    exact ⟨sk_in_n (hd := true) hq f.2.1, fun z hz hz2 => sk_in_n (hd := true) hz (hz2 ▸ f.2.2)⟩
theorem sk_ok3p {s p q : Nat} {r : Bool} (hf : sk_sfe lab sec rdo sk sx sy sz so sh s) (hp : p < 50) (hq : q < 50) (hk : sk s = 3) (h1 : sx s = nI p) (h2 : sy s = nI q) (hs : sec p = 0) (h : sk_ok so sh s r) : sk_ok so sh q r ∧ ∀ z, z < 50 → sz s = nI z → sk_ok so sh z r := by
  rcases h with ⟨hr, h⟩ | h
  · have f := hf.1.mp h
    simp only [sk_sf, hk, h1, h2, nI_clamp (show p < 2 ^ 31 by omega), hs] at f
    exact ⟨Or.inl ⟨hr, sk_in_n (hd := false) hq f.2.1⟩, fun z hz hz2 => Or.inl ⟨hr, sk_in_n (hd := false) hz (hz2 ▸ f.2.2)⟩⟩
  · have f := hf.2.mp h
    simp only [sk_sf, hk, h1, h2, nI_clamp (show p < 2 ^ 31 by omega), hs] at f
    exact ⟨Or.inr (sk_in_n (hd := true) hq f.2.1), fun z hz hz2 => Or.inr (sk_in_n (hd := true) hz (hz2 ▸ f.2.2))⟩
theorem sk_ok4 {s q : Nat} {r : Bool} (hf : sk_sfe lab sec rdo sk sx sy sz so sh s) (hq : q < 50) (hk : sk s = 4) (h2 : sy s = nI q) (h : sk_ok so sh s r) : sk_ok so sh q r := by
  rcases h with ⟨hr, h⟩ | h
  · have f := hf.1.mp h
    simp only [sk_sf, hk, h2] at f
    exact Or.inl ⟨hr, sk_in_n (hd := false) hq f⟩
  · have f := hf.2.mp h
    simp only [sk_sf, hk, h2] at f
    exact Or.inr (sk_in_n (hd := true) hq f)
theorem sk_ok5 {s q : Nat} {r : Bool} (hf : sk_sfe lab sec rdo sk sx sy sz so sh s) (hq : q < 50) (hk : sk s = 5) (h2 : sy s = nI q) (h : sk_ok so sh s r) : sk_ok so sh q r := by
  rcases h with ⟨hr, h⟩ | h
  · have f := hf.1.mp h
    simp only [sk_sf, hk, h2] at f
    exact Or.inl ⟨hr, sk_in_n (hd := false) hq f.2.2.2⟩
  · have f := hf.2.mp h
    simp only [sk_sf, hk, h2] at f
    exact absurd f.1 (by decide)
theorem sk_ok6 {s : Nat} {r : Bool} (hf : sk_sfe lab sec rdo sk sx sy sz so sh s) (hk : sk s = 6) (h : sk_ok so sh s r) : r = true := by
  rcases h with ⟨hr, h⟩ | h
  · exact hr
  · have f := hf.2.mp h
    simp only [sk_sf, hk] at f
    exact absurd f.1 (by decide)
/-- every statement that may be executed does one thing, on both machines -/
theorem sk_R (hN : N ≤ 40) (hM : M ≤ 50) (HE : ∀ e, e < M → sk_node ek ex ey ez ew px py pz od e) (HS : ∀ s, s < N → sk_stm M ew sk sx sy sz sw dp s) (HF : ∀ s, s < N → sk_sfe lab sec rdo sk sx sy sz so sh s) :
    ∀ s, s < N → ∀ (r : Bool) (vs es : sk_F) (lc : Nat) (la : sk_F) (pc : Nat) (pa : sk_F), sk_ok so sh s r → lc + 31 * (sk_K (sk_w dp s) * sk_w sw s) ≤ 2 ^ 30 → pc + sk_K (sk_w dp s) * sk_w sw s ≤ 2 ^ 30 →
      sk_G M N ek ex ey ez ew od sec sk sx sy sz sw s 0 r vs es lc la pc pa (sk_K (sk_w dp s) * sk_w sw s) := by
  intro s
  induction s using Nat.strongRecOn with
  | ind s ih =>
    intro hs r vs es lc la pc pa hok hlc hpc
    have hE : ∀ p, p < M → ∀ (vs es : sk_F) (lc : Nat) (la : sk_F), lc + 31 ≤ 2 ^ 30 → ∃ (v : Int32) (lc' : Nat) (la' : sk_F), lc' ≤ lc + sk_w ew p ∧ sk_EvX M ek ex ew od vs es p lc la v lc' la' ∧ sk_EvY M ek ex ey ez ew vs es p lc la v lc' la' := by
      intro p hp vs es lc la hl
      have := (HE p hp).1.2.1
      exact sk_E_all HE p hp lc la (by omega)
    have hE30 : ∀ p, p < M → sk_w ew p ≤ 30 := fun p hp => (HE p hp).1.2.1
    have hS1 : ∀ p, p < N → 1 ≤ sk_w sw p := fun p hp => (HS p hp).1.2.2.1
    have hf := HF s hs
    obtain ⟨⟨_, _, hw1, hw30, hd3⟩, hc⟩ := HS s hs
    have hB3 : 3 ≤ sk_K (sk_w dp s) * sk_w sw s := Nat.le_trans (sk_K3 _) (Nat.le_mul_of_pos_right _ hw1)
    have hK3 := sk_K3 (sk_w dp s)
    rcases hc with ⟨hk, x, p, hx, hp, h1, h2⟩ | ⟨hk, a, p, q, ha, hp, hq, h1, h2, h3, hww⟩ | ⟨hk, p, q, hp, hq, h1, h2, hw, d1, d2⟩ | ⟨hk, p, q, hp, hq, h1, h2, d1, hwq, hz⟩ | ⟨hk, x, q, hx, hq, h1, h2, hwq, hd⟩ | ⟨hk, p, q, hp, hq, h1, h2, hwq, hd⟩ | ⟨hk, p, hp, h1⟩
    · obtain ⟨v, lc', la', l, X, Y⟩ := hE p hp vs es lc la (by omega)
      exact sk_g0 hs hk hx h1 hp h2 hw1 X Y (by have := hE30 p hp; omega) (by omega)
    · obtain ⟨v0, lc0, la0, l0, X0, Y0⟩ := hE p hp vs es lc la (by omega)
      obtain ⟨v, lc', la', l, X, Y⟩ := hE q hq vs es lc0 la0 (by have := hE30 p hp; omega)
      exact sk_g1 hs hk ha h1 hp h2 hq h3 hw1 X0 Y0 X Y (by omega) (by omega) (by omega)
    · have hb := sk_b2 hK3 (sk_Km d1) (sk_Km d2) (Nat.le_refl _) (Nat.le_refl _) (w := sk_w sw s) (Nat.le_of_eq hw.symm)
      obtain ⟨o1, o2⟩ := sk_ok2 hf (by omega) (by omega) hk h1 h2 hok
      refine sk_g2 hs hk (by omega) h1 (by omega) h2 (Nat.le_of_eq hw.symm) (hS1 p (by omega)) (hS1 q (by omega)) (ih p hp (by omega) r vs es lc la pc pa o1 (by omega) (by omega)) ?_ hb
      intro vs1 es1 lc1 la1 pc1 pa1 l1 l2
      exact ih q hq (by omega) r vs1 es1 lc1 la1 pc1 pa1 o2 (by omega) (by omega)
    · obtain ⟨v, lc', la', l, X, Y⟩ := hE p hp vs es lc la (by omega)
      have l30 : lc' ≤ lc + 30 := by have := hE30 p hp; omega
      have hb1 := sk_b1 hK3 (sk_Km d1) (Nat.le_refl _) (w := sk_w sw s) hwq
      by_cases hsec : sec p = 0
      · obtain ⟨o1, o2⟩ := sk_ok3p hf (by omega) (by omega) hk h1 h2 hsec hok
        by_cases hv : v = 0
        · rcases hz with hz | ⟨z, hz, hz2, d2, hwz⟩
          · exact sk_g3d hs hk hp h1 (by omega) h2 X Y l30 hw1 hsec hv hz (by omega) hB3
          · have hb2 := sk_b1 hK3 (sk_Km d2) (Nat.le_refl _) (w := sk_w sw s) (w1 := sk_w sw z) (by omega)
            exact sk_g3e hs hk hp h1 (by omega) h2 X Y l30 (by omega) (hS1 z (by omega)) hsec hv (by omega) hz2 (by omega) (ih z hz (by omega) r vs es (lc' + 1) (sk_put 200 lc' la' 0) pc pa (o2 z (by omega) hz2) (by omega) (by omega)) hb2
        · have hz' : sz s = -1 ∨ ∃ z, z < N ∧ sz s = nI z := by
            rcases hz with hz | ⟨z, hz, hz2, _⟩
            · exact Or.inl hz
            · exact Or.inr ⟨z, by omega, hz2⟩
          exact sk_g3c hs hk hp h1 (by omega) h2 X Y l30 hwq (hS1 q (by omega)) hsec hv hz' (by omega) (ih q hq (by omega) r vs es (lc' + 1) (sk_put 200 lc' la' 1) pc pa o1 (by omega) (by omega)) hb1
      · obtain ⟨o1, o2⟩ := sk_ok3s hf (by omega) (by omega) hk h1 h2 hsec hok
        rcases hz with hz | ⟨z, hz, hz2, d2, hwz⟩
        · exact sk_g3a hs hk hp h1 (by omega) h2 X Y l30 hwq (hS1 q (by omega)) hsec hz (ih q hq (by omega) _ vs es lc' la' pc pa (Or.inr o1) (by omega) (by omega)) hb1
        · have hb2 := sk_b2 hK3 (sk_Km d1) (sk_Km d2) (Nat.le_refl _) (Nat.le_refl _) (w := sk_w sw s) hwz
          refine sk_g3b hs hk hp h1 (by omega) h2 X Y l30 hwz (hS1 q (by omega)) (hS1 z (by omega)) hsec (by omega) hz2 (ih q hq (by omega) _ vs es lc' la' pc pa (Or.inr o1) (by omega) (by omega)) ?_ hb2
          intro vs1 es1 lc1 la1 pc1 pa1 l1 l2
          exact ih z hz (by omega) _ vs1 es1 lc1 la1 pc1 pa1 (Or.inr (o2 z (by omega) hz2)) (by omega) (by omega)
    · have o1 := sk_ok4 hf (by omega) hk h2 hok
      have hb := sk_b4 (sk_K3 (sk_w dp q)) hwq
      rw [← sk_Ks, ← hd] at hb
      have hx1 : x * (1 + sk_K (sk_w dp q) * sk_w sw q) ≤ 6 * (1 + sk_K (sk_w dp q) * sk_w sw q) := Nat.mul_le_mul_right _ hx
      have G := sk_g4 (ek := ek) (ex := ex) (ey := ey) (ez := ez) (ew := ew) (od := od) (sec := sec) (M := M) (sz := sz) (r := r) hs hk hx h1 (by omega) h2 hwq (hS1 q (by omega)) (B1 := sk_K (sk_w dp q) * sk_w sw q) (U := 2 ^ 30) (V := 2 ^ 30) (fun vs es lc la pc pa l1 l2 => ih q hq (by omega) r vs es lc la pc pa o1 l1 l2) x 0 vs es lc la pc pa (by omega) (by omega) (by omega)
      obtain ⟨vs1, es1, lc1, la1, pc1, pa1, c1, d1, i1, i2, i3, i4, X1, Y1⟩ := G
      exact ⟨vs1, es1, lc1, la1, pc1, pa1, c1, d1, i1, by omega, i3, i4, X1, Y1⟩
    · have o1 := sk_ok5 hf (by omega) hk h2 hok
      have hb := sk_b4 (sk_K3 (sk_w dp q)) hwq
      rw [← sk_Ks, ← hd] at hb
      have G := sk_g5 (r := r) (od := od) (ek := ek) (ex := ex) (ey := ey) (ez := ez) (ew := ew) (sec := sec) (sz := sz) hs hk hp h1 (by omega) h2 hwq (hS1 q (by omega)) (B1 := sk_K (sk_w dp q) * sk_w sw q) (U := 2 ^ 30) (V := 2 ^ 30) (Nat.le_refl _)
        (fun vs es lc la hl => by obtain ⟨v, lc', la', l, X, Y⟩ := hE p hp vs es lc la hl; exact ⟨v, lc', la', by have := hE30 p hp; omega, X, Y⟩)
        (fun vs es lc la pc pa l1 l2 => ih q hq (by omega) r vs es lc la pc pa o1 l1 l2) 6 0 vs es lc la pc pa (by omega) (by omega) (by omega)
      obtain ⟨vs1, es1, lc1, la1, pc1, pa1, c1, d1, i1, i2, i3, i4, X1, Y1⟩ := G
      exact ⟨vs1, es1, lc1, la1, pc1, pa1, c1, d1, i1, by omega, i3, i4, X1, Y1⟩
    · obtain ⟨v, lc', la', l, X, Y⟩ := hE p hp vs es lc la (by omega)
      have hr := sk_ok6 hf hk hok
      subst hr
      exact sk_g6 hs hk hp h1 hw1 X Y (by have := hE30 p hp; omega) (by omega) (by omega)
end
