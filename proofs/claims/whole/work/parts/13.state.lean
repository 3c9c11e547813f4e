/-! 13: state, label, and what is new -/
/-- what a fitting statement is made of, its weight and its loops -/
def sk_sp (M N : Nat) (ew sw dp : sk_F) (m : Nat) (x y z : Int32) (W D : Nat) : Prop :=
  (m = 0 ∧ ∃ v p, v < 8 ∧ p < M ∧ x = nI v ∧ y = nI p ∧ W = 1 + sk_w ew p ∧ D = 0)
  ∨ (m = 1 ∧ ∃ a p q, a < 2 ∧ p < M ∧ q < M ∧ x = nI a ∧ y = nI p ∧ z = nI q ∧ W = 1 + sk_w ew p + sk_w ew q ∧ D = 0)
  ∨ (m = 2 ∧ ∃ p q, p < N ∧ q < N ∧ x = nI p ∧ y = nI q ∧ W = 1 + sk_w sw p + sk_w sw q ∧ D = max (sk_w dp p) (sk_w dp q))
  ∨ (m = 3 ∧ ∃ p q, p < M ∧ q < N ∧ x = nI p ∧ y = nI q ∧ ((z = -1 ∧ W = 1 + sk_w ew p + sk_w sw q ∧ D = sk_w dp q) ∨ ∃ r, r < N ∧ z = nI r ∧ W = 1 + sk_w ew p + sk_w sw q + sk_w sw r ∧ D = max (sk_w dp q) (sk_w dp r)))
  ∨ (m = 4 ∧ ∃ t q, 1 ≤ t ∧ t ≤ 6 ∧ q < N ∧ x = nI t ∧ y = nI q ∧ W = 1 + sk_w sw q ∧ D = 1 + sk_w dp q)
  ∨ (m = 5 ∧ ∃ p q, p < M ∧ q < N ∧ x = nI p ∧ y = nI q ∧ W = 1 + sk_w ew p + sk_w sw q ∧ D = 1 + sk_w dp q)
  ∨ (m = 6 ∧ ∃ p, p < M ∧ x = nI p ∧ W = 1 + sk_w ew p ∧ D = 0)
theorem sk_is4 (x : Int32) : (¬ x < 1 ∧ ¬ 6 < x) ↔ ∃ t : Nat, 1 ≤ t ∧ t ≤ 6 ∧ x = nI t := by
  constructor
  · intro h
    rcases pk_ix x (n := 7) (by decide) with w | w | ⟨j, hj, e⟩
    · exact absurd (Int32.lt_trans w (by decide)) h.1
    · exact absurd (Int32.lt_of_lt_of_le (by decide) w) h.2
    · refine ⟨j, ?_, by omega, e⟩
      by_cases h1 : 1 ≤ j
      · exact h1
      · rw [e] at h
        exact absurd (nI_lt (b := 1) (by omega) (by decide)) h.1
  · intro h
    obtain ⟨t, h1, h2, e⟩ := h
    rw [e]
    exact ⟨nI_nlt (b := 1) h1 (by omega), nI_nlt (a := 6) h2 (by decide)⟩
section
variable {M N : Nat} {ew sw dp : sk_F} {x y z : Int32} {W D : Nat}
theorem sk_sp_0 (h : ∃ W D, sk_sp M N ew sw dp 0 x y z W D) : sk_is 8 x ∧ sk_is M y := by
  obtain ⟨W, D, h⟩ := h
  rcases h with ⟨_, v, p, hv, hp, e1, e2, _⟩ | ⟨k, _⟩ | ⟨k, _⟩ | ⟨k, _⟩ | ⟨k, _⟩ | ⟨k, _⟩ | ⟨k, _⟩
  · exact ⟨⟨v, hv, e1⟩, ⟨p, hp, e2⟩⟩
  · exact absurd k (by decide)
  · exact absurd k (by decide)
  · exact absurd k (by decide)
  · exact absurd k (by decide)
  · exact absurd k (by decide)
  · exact absurd k (by decide)
theorem sk_sq_0 (h : sk_is 8 x ∧ sk_is M y) : ∃ W D, sk_sp M N ew sw dp 0 x y z W D := by
  obtain ⟨⟨v, hv, e1⟩, ⟨p, hp, e2⟩⟩ := h
  exact ⟨_, _, Or.inl ⟨rfl, v, p, hv, hp, e1, e2, rfl, rfl⟩⟩
theorem sk_sp_1 (h : ∃ W D, sk_sp M N ew sw dp 1 x y z W D) : sk_is 2 x ∧ sk_is M y ∧ sk_is M z := by
  obtain ⟨W, D, h⟩ := h
  rcases h with ⟨k, _⟩ | ⟨_, a, p, q, ha, hp, hq, e1, e2, e3, _⟩ | ⟨k, _⟩ | ⟨k, _⟩ | ⟨k, _⟩ | ⟨k, _⟩ | ⟨k, _⟩
  · exact absurd k (by decide)
  · exact ⟨⟨a, ha, e1⟩, ⟨p, hp, e2⟩, ⟨q, hq, e3⟩⟩
  · exact absurd k (by decide)
  · exact absurd k (by decide)
  · exact absurd k (by decide)
  · exact absurd k (by decide)
  · exact absurd k (by decide)
theorem sk_sq_1 (h : sk_is 2 x ∧ sk_is M y ∧ sk_is M z) : ∃ W D, sk_sp M N ew sw dp 1 x y z W D := by
  obtain ⟨⟨a, ha, e1⟩, ⟨p, hp, e2⟩, ⟨q, hq, e3⟩⟩ := h
  exact ⟨_, _, Or.inr (Or.inl ⟨rfl, a, p, q, ha, hp, hq, e1, e2, e3, rfl, rfl⟩)⟩
theorem sk_sp_2 (h : ∃ W D, sk_sp M N ew sw dp 2 x y z W D) : sk_is N x ∧ sk_is N y := by
  obtain ⟨W, D, h⟩ := h
  rcases h with ⟨k, _⟩ | ⟨k, _⟩ | ⟨_, p, q, hp, hq, e1, e2, _⟩ | ⟨k, _⟩ | ⟨k, _⟩ | ⟨k, _⟩ | ⟨k, _⟩
  · exact absurd k (by decide)
  · exact absurd k (by decide)
  · exact ⟨⟨p, hp, e1⟩, ⟨q, hq, e2⟩⟩
  · exact absurd k (by decide)
  · exact absurd k (by decide)
  · exact absurd k (by decide)
  · exact absurd k (by decide)
theorem sk_sq_2 (h : sk_is N x ∧ sk_is N y) : ∃ W D, sk_sp M N ew sw dp 2 x y z W D := by
  obtain ⟨⟨p, hp, e1⟩, ⟨q, hq, e2⟩⟩ := h
  exact ⟨_, _, Or.inr (Or.inr (Or.inl ⟨rfl, p, q, hp, hq, e1, e2, rfl, rfl⟩))⟩
theorem sk_sp_3 (h : ∃ W D, sk_sp M N ew sw dp 3 x y z W D) : sk_is M x ∧ sk_is N y ∧ (z = -1 ∨ sk_is N z) := by
  obtain ⟨W, D, h⟩ := h
  rcases h with ⟨k, _⟩ | ⟨k, _⟩ | ⟨k, _⟩ | ⟨_, p, q, hp, hq, e1, e2, e3⟩ | ⟨k, _⟩ | ⟨k, _⟩ | ⟨k, _⟩
  · exact absurd k (by decide)
  · exact absurd k (by decide)
  · exact absurd k (by decide)
  · exact ⟨⟨p, hp, e1⟩, ⟨q, hq, e2⟩, e3.imp (fun w => w.1) (fun ⟨r, hr, e, _⟩ => ⟨r, hr, e⟩)⟩
  · exact absurd k (by decide)
  · exact absurd k (by decide)
  · exact absurd k (by decide)
theorem sk_sq_3 (h : sk_is M x ∧ sk_is N y ∧ (z = -1 ∨ sk_is N z)) : ∃ W D, sk_sp M N ew sw dp 3 x y z W D := by
  obtain ⟨⟨p, hp, e1⟩, ⟨q, hq, e2⟩, e3⟩ := h
  rcases e3 with e3 | ⟨r, hr, e3⟩
  · exact ⟨_, _, Or.inr (Or.inr (Or.inr (Or.inl ⟨rfl, p, q, hp, hq, e1, e2, Or.inl ⟨e3, rfl, rfl⟩⟩)))⟩
  · exact ⟨_, _, Or.inr (Or.inr (Or.inr (Or.inl ⟨rfl, p, q, hp, hq, e1, e2, Or.inr ⟨r, hr, e3, rfl, rfl⟩⟩)))⟩
theorem sk_sp_4 (h : ∃ W D, sk_sp M N ew sw dp 4 x y z W D) : (¬ x < 1 ∧ ¬ 6 < x) ∧ sk_is N y := by
  obtain ⟨W, D, h⟩ := h
  rcases h with ⟨k, _⟩ | ⟨k, _⟩ | ⟨k, _⟩ | ⟨k, _⟩ | ⟨_, t, q, h1, h2, hq, e1, e2, _⟩ | ⟨k, _⟩ | ⟨k, _⟩
  · exact absurd k (by decide)
  · exact absurd k (by decide)
  · exact absurd k (by decide)
  · exact absurd k (by decide)
  · exact ⟨(sk_is4 x).mpr ⟨t, h1, h2, e1⟩, ⟨q, hq, e2⟩⟩
  · exact absurd k (by decide)
  · exact absurd k (by decide)
theorem sk_sq_4 (h : (¬ x < 1 ∧ ¬ 6 < x) ∧ sk_is N y) : ∃ W D, sk_sp M N ew sw dp 4 x y z W D := by
  obtain ⟨h0, ⟨q, hq, e2⟩⟩ := h
  obtain ⟨t, h1, h2, e1⟩ := (sk_is4 x).mp h0
  exact ⟨_, _, Or.inr (Or.inr (Or.inr (Or.inr (Or.inl ⟨rfl, t, q, h1, h2, hq, e1, e2, rfl, rfl⟩))))⟩
theorem sk_sp_5 (h : ∃ W D, sk_sp M N ew sw dp 5 x y z W D) : sk_is M x ∧ sk_is N y := by
  obtain ⟨W, D, h⟩ := h
  rcases h with ⟨k, _⟩ | ⟨k, _⟩ | ⟨k, _⟩ | ⟨k, _⟩ | ⟨k, _⟩ | ⟨_, p, q, hp, hq, e1, e2, _⟩ | ⟨k, _⟩
  · exact absurd k (by decide)
  · exact absurd k (by decide)
  · exact absurd k (by decide)
  · exact absurd k (by decide)
  · exact absurd k (by decide)
  · exact ⟨⟨p, hp, e1⟩, ⟨q, hq, e2⟩⟩
  · exact absurd k (by decide)
theorem sk_sq_5 (h : sk_is M x ∧ sk_is N y) : ∃ W D, sk_sp M N ew sw dp 5 x y z W D := by
  obtain ⟨⟨p, hp, e1⟩, ⟨q, hq, e2⟩⟩ := h
  exact ⟨_, _, Or.inr (Or.inr (Or.inr (Or.inr (Or.inr (Or.inl ⟨rfl, p, q, hp, hq, e1, e2, rfl, rfl⟩)))))⟩
theorem sk_sp_6 (h : ∃ W D, sk_sp M N ew sw dp 6 x y z W D) : sk_is M x := by
  obtain ⟨W, D, h⟩ := h
  rcases h with ⟨k, _⟩ | ⟨k, _⟩ | ⟨k, _⟩ | ⟨k, _⟩ | ⟨k, _⟩ | ⟨k, _⟩ | ⟨_, p, hp, e1, _⟩
  · exact absurd k (by decide)
  · exact absurd k (by decide)
  · exact absurd k (by decide)
  · exact absurd k (by decide)
  · exact absurd k (by decide)
  · exact absurd k (by decide)
  · exact ⟨p, hp, e1⟩
theorem sk_sq_6 (h : sk_is M x) : ∃ W D, sk_sp M N ew sw dp 6 x y z W D := by
  obtain ⟨p, hp, e1⟩ := h
  exact ⟨_, _, Or.inr (Or.inr (Or.inr (Or.inr (Or.inr (Or.inr ⟨rfl, p, hp, e1, rfl, rfl⟩)))))⟩
end
section
variable {pl lc pc : Int32} {M N : Nat} {vs es lab ek ex px py pz ew od sec rdo sk sx sy sz sw dp so sh la pa vl ps pt pr : sk_F}
theorem sk_xit {post : Int32 → Prop} {x : Int32} (hN : N ≤ 40) (H1 : sk_is N x → post 1) (H0 : ¬ sk_is N x → post 0) : wpX_isStatement post (nI M, nI N, lc, pc, pl, vs, es, lab, ek, ex, px, py, pz, ew, od, sec, rdo, sk, sx, sy, sz, sw, dp, so, sh, la, pa, vl, ps, pt, pr) x :=
  sk_is_c x (n := N) (by omega) (fun a b h => br_f a (br_f b (H1 h))) (fun h w => by rcases w with w | ⟨w, v⟩; exact br_t w (H0 h); exact br_f w (br_t v (H0 h)))
theorem sk_xsf {post : Int32 → Prop} {m : Nat} {x y z : Int32} (hM : M ≤ 50) (hN : N ≤ 40) (hm : m ≤ 6) (H1 : (∃ W D, sk_sp M N ew sw dp m x y z W D) → post 1) (H0 : ¬ (∃ W D, sk_sp M N ew sw dp m x y z W D) → post 0) : wpX_statementFits post (nI M, nI N, lc, pc, pl, vs, es, lab, ek, ex, px, py, pz, ew, od, sec, rdo, sk, sx, sy, sz, sw, dp, so, sh, la, pa, vl, ps, pt, pr) (nI m) x y z := by
  have hm2 : m = 0 ∨ m = 1 ∨ m = 2 ∨ m = 3 ∨ m = 4 ∨ m = 5 ∨ m = 6 := by omega
  rcases hm2 with rfl | rfl | rfl | rfl | rfl | rfl | rfl
  · exact br_f (by decide) (br_f (by decide) (br_t rfl (sk_xiv (fun a => br_f (by decide) (sk_xie hM (fun b => br_f (by decide) (H1 (sk_sq_0 ⟨a, b⟩))) (fun b => br_t rfl (H0 (fun w => b (sk_sp_0 w).2))))) (fun a => br_t rfl (H0 (fun w => a (sk_sp_0 w).1))))))
  · exact br_f (by decide) (br_f (by decide) (br_f (by decide) (br_t rfl (sk_xia (fun a => br_f (by decide) (sk_xie hM (fun b => br_f (by decide) (sk_xie hM (fun d => br_f (by decide) (H1 (sk_sq_1 ⟨a, b, d⟩))) (fun d => br_t rfl (H0 (fun w => d (sk_sp_1 w).2.2))))) (fun b => br_t rfl (H0 (fun w => b (sk_sp_1 w).2.1))))) (fun a => br_t rfl (H0 (fun w => a (sk_sp_1 w).1)))))))
  · exact br_f (by decide) (br_f (by decide) (br_f (by decide) (br_f (by decide) (br_t rfl (sk_xit hN (fun a => br_f (by decide) (sk_xit hN (fun b => br_f (by decide) (H1 (sk_sq_2 ⟨a, b⟩))) (fun b => br_t rfl (H0 (fun w => b (sk_sp_2 w).2))))) (fun a => br_t rfl (H0 (fun w => a (sk_sp_2 w).1))))))))
  · exact br_f (by decide) (br_f (by decide) (br_f (by decide) (br_f (by decide) (br_f (by decide) (br_t rfl (sk_xie hM (fun a => br_f (by decide) (sk_xit hN (fun b => br_f (by decide) (br_c (fun d => H1 (sk_sq_3 ⟨a, b, Or.inl d⟩)) (fun d => sk_xit hN (fun f => br_f (by decide) (H1 (sk_sq_3 ⟨a, b, Or.inr f⟩))) (fun f => br_t rfl (H0 (fun w => (sk_sp_3 w).2.2.elim d f)))))) (fun b => br_t rfl (H0 (fun w => b (sk_sp_3 w).2.1))))) (fun a => br_t rfl (H0 (fun w => a (sk_sp_3 w).1)))))))))
  · exact br_f (by decide) (br_f (by decide) (br_f (by decide) (br_f (by decide) (br_f (by decide) (br_f (by decide) (br_t rfl (br_c (fun a => H0 (fun w => (sk_sp_4 w).1.1 a)) (fun a => br_c (fun b => H0 (fun w => (sk_sp_4 w).1.2 b)) (fun b => sk_xit hN (fun d => br_f (by decide) (H1 (sk_sq_4 ⟨⟨a, b⟩, d⟩))) (fun d => br_t rfl (H0 (fun w => d (sk_sp_4 w).2))))))))))))
  · exact br_f (by decide) (br_f (by decide) (br_f (by decide) (br_f (by decide) (br_f (by decide) (br_f (by decide) (br_f (by decide) (br_t rfl (sk_xie hM (fun a => br_f (by decide) (sk_xit hN (fun b => br_f (by decide) (H1 (sk_sq_5 ⟨a, b⟩))) (fun b => br_t rfl (H0 (fun w => b (sk_sp_5 w).2))))) (fun a => br_t rfl (H0 (fun w => a (sk_sp_5 w).1)))))))))))
  · exact br_f (by decide) (br_t (by decide) (sk_xie hM (fun a => ⟨rfl, H1 (sk_sq_6 a)⟩) (fun a => ⟨rfl, H0 (fun w => a (sk_sp_6 w))⟩)))
theorem sk_xwo {post : Int32 → Prop} {m W D : Nat} {x y z : Int32} (hM : M ≤ 50) (hN : N ≤ 40) (hwE : ∀ p, p < M → ew p = nI (sk_w ew p)) (hwS : ∀ p, p < N → sw p = nI (sk_w sw p)) (hdS : ∀ p, p < N → dp p = nI (sk_w dp p)) (hd3 : ∀ p, p < N → sk_w dp p ≤ 3) (h : sk_sp M N ew sw dp m x y z W D) (H : post (nI W)) : wpX_weightOf post (nI M, nI N, lc, pc, pl, vs, es, lab, ek, ex, px, py, pz, ew, od, sec, rdo, sk, sx, sy, sz, sw, dp, so, sh, la, pa, vl, ps, pt, pr) (nI m) x y z := by
  have iE : ∀ p, p < M → vp_in (nI p) 50 := fun p hp => vp_in_nI (by omega) (by omega)
  have iS : ∀ p, p < N → vp_in (nI p) 40 := fun p hp => vp_in_nI (by omega) (by omega)
  have eE : ∀ p, p < M → ew (nI p).toNatClampNeg = nI (sk_w ew p) := fun p hp => by rw [nI_clamp (by omega)]; exact hwE p hp
  have eS : ∀ p, p < N → sw (nI p).toNatClampNeg = nI (sk_w sw p) := fun p hp => by rw [nI_clamp (by omega)]; exact hwS p hp
  have eD : ∀ p, p < N → dp (nI p).toNatClampNeg = nI (sk_w dp p) := fun p hp => by rw [nI_clamp (by omega)]; exact hdS p hp
  have o1 : (1 : Int32) = nI 1 := rfl
  unfold wpX_weightOf wX_weightOf_99
  dsimp only
  rcases h with ⟨rfl, v, p, hv, hp, rfl, rfl, rfl, rfl⟩ | ⟨rfl, a, p, q, ha, hp, hq, rfl, rfl, rfl, rfl, rfl⟩ | ⟨rfl, p, q, hp, hq, rfl, rfl, rfl, rfl⟩ | ⟨rfl, p, q, hp, hq, rfl, rfl, ⟨rfl, rfl, rfl⟩ | ⟨r, hr, rfl, rfl, rfl⟩⟩ | ⟨rfl, t, q, h1, h2, hq, rfl, rfl, rfl, rfl⟩ | ⟨rfl, p, q, hp, hq, rfl, rfl, rfl, rfl⟩ | ⟨rfl, p, hp, rfl, rfl, rfl⟩
  · rw [eE p hp, o1, nI_add]
    exact br_f (by decide) (br_f (by decide) (br_t rfl ⟨iE p hp, H⟩))
  · rw [eE p hp, eE q hq, o1, nI_add, nI_add]
    exact br_f (by decide) (br_f (by decide) (br_f (by decide) (br_t rfl ⟨iE p hp, iE q hq, H⟩)))
  · rw [eS p hp, eS q hq, o1, nI_add, nI_add]
    exact br_f (by decide) (br_f (by decide) (br_f (by decide) (br_f (by decide) (br_t rfl ⟨iS p hp, iS q hq, H⟩))))
  · rw [eE p hp, eS q hq]
    refine br_f (by decide) (br_f (by decide) (br_f (by decide) (br_f (by decide) (br_f (by decide) (br_t rfl (br_t rfl ⟨iE p hp, iS q hq, ?_⟩))))))
    rw [o1, nI_add, nI_add, show (0 : Int32) = nI 0 from rfl, nI_add]
    exact H
  · rw [eE p hp, eS q hq, eS r hr]
    refine br_f (by decide) (br_f (by decide) (br_f (by decide) (br_f (by decide) (br_f (by decide) (br_t rfl (br_f (sk_m1 (by omega)) ⟨iS r hr, iE p hp, iS q hq, ?_⟩))))))
    rw [o1, nI_add, nI_add, nI_add]
    exact H
  · rw [eS q hq, o1, nI_add]
    exact br_f (by decide) (br_f (by decide) (br_f (by decide) (br_f (by decide) (br_f (by decide) (br_f (by decide) (br_t rfl ⟨iS q hq, H⟩))))))
  · rw [eE p hp, eS q hq, o1, nI_add, nI_add]
    exact br_f (by decide) (br_f (by decide) (br_f (by decide) (br_f (by decide) (br_f (by decide) (br_f (by decide) (br_f (by decide) (br_t rfl ⟨iE p hp, iS q hq, H⟩)))))))
  · rw [eE p hp, o1, nI_add]
    exact br_f (by decide) (br_t (by decide) ⟨iE p hp, H⟩)
theorem sk_xlg {post : Int32 → Prop} {a b c : Nat} {x y : Int32} (hx : x = nI a) (hy : y = nI b) (ha : a ≤ 3) (hb : b ≤ 3) (hc : c = max a b) (H : post (nI c)) : wpX_larger post x y := by
  subst hx hy hc
  refine pk_le a b (fun h => ?_) (fun h => ?_)
  · rw [Nat.max_eq_right h] at H
    exact H
  · rw [Nat.max_eq_left (by omega)] at H
    exact H
theorem sk_xno {post : Int32 → Prop} {m W D : Nat} {x y z : Int32} (hM : M ≤ 50) (hN : N ≤ 40) (hwE : ∀ p, p < M → ew p = nI (sk_w ew p)) (hwS : ∀ p, p < N → sw p = nI (sk_w sw p)) (hdS : ∀ p, p < N → dp p = nI (sk_w dp p)) (hd3 : ∀ p, p < N → sk_w dp p ≤ 3) (h : sk_sp M N ew sw dp m x y z W D) (H : post (nI D)) : wpX_nestingOf post (nI M, nI N, lc, pc, pl, vs, es, lab, ek, ex, px, py, pz, ew, od, sec, rdo, sk, sx, sy, sz, sw, dp, so, sh, la, pa, vl, ps, pt, pr) (nI m) x y z := by
  have iE : ∀ p, p < M → vp_in (nI p) 50 := fun p hp => vp_in_nI (by omega) (by omega)
  have iS : ∀ p, p < N → vp_in (nI p) 40 := fun p hp => vp_in_nI (by omega) (by omega)
  have eE : ∀ p, p < M → ew (nI p).toNatClampNeg = nI (sk_w ew p) := fun p hp => by rw [nI_clamp (by omega)]; exact hwE p hp
  have eS : ∀ p, p < N → sw (nI p).toNatClampNeg = nI (sk_w sw p) := fun p hp => by rw [nI_clamp (by omega)]; exact hwS p hp
  have eD : ∀ p, p < N → dp (nI p).toNatClampNeg = nI (sk_w dp p) := fun p hp => by rw [nI_clamp (by omega)]; exact hdS p hp
  have o1 : (1 : Int32) = nI 1 := rfl
  unfold wpX_nestingOf wX_nestingOf_65
  dsimp only
  rcases h with ⟨rfl, v, p, hv, hp, rfl, rfl, rfl, rfl⟩ | ⟨rfl, a, p, q, ha, hp, hq, rfl, rfl, rfl, rfl, rfl⟩ | ⟨rfl, p, q, hp, hq, rfl, rfl, rfl, rfl⟩ | ⟨rfl, p, q, hp, hq, rfl, rfl, ⟨rfl, rfl, rfl⟩ | ⟨r, hr, rfl, rfl, rfl⟩⟩ | ⟨rfl, t, q, h1, h2, hq, rfl, rfl, rfl, rfl⟩ | ⟨rfl, p, q, hp, hq, rfl, rfl, rfl, rfl⟩ | ⟨rfl, p, hp, rfl, rfl, rfl⟩
  · exact br_t (by decide) H
  · exact br_t (by decide) H
  · exact br_f (by decide) (br_f (by decide) (br_t rfl ⟨iS p hp, iS q hq, sk_xlg (eD p hp) (eD q hq) (hd3 p hp) (hd3 q hq) rfl H⟩))
  · exact br_f (by decide) (br_f (by decide) (br_f (by decide) (br_t rfl (br_t rfl ⟨iS q hq, sk_xlg (b := 0) (eD q hq) rfl (hd3 q hq) (by omega) (Nat.max_eq_left (Nat.zero_le _)).symm H⟩))))
  · exact br_f (by decide) (br_f (by decide) (br_f (by decide) (br_t rfl (br_f (sk_m1 (by omega)) ⟨iS r hr, iS q hq, sk_xlg (eD q hq) (eD r hr) (hd3 q hq) (hd3 r hr) rfl H⟩))))
  · rw [eD q hq, o1, nI_add]
    exact br_f (by decide) (br_f (by decide) (br_f (by decide) (br_f (by decide) (br_t rfl ⟨iS q hq, H⟩))))
  · rw [eD q hq, o1, nI_add]
    exact br_f (by decide) (br_f (by decide) (br_f (by decide) (br_f (by decide) (br_f (by decide) (br_t rfl ⟨iS q hq, H⟩)))))
  · exact br_f (by decide) (br_t (by decide) H)
/-- a new statement is as it must be -/
theorem sk_news {m W D : Nat} {x y z : Int32} (h : sk_sp M N ew sw dp m x y z W D) (hW : W ≤ 30) (hD : D ≤ 3) : sk_stm M ew (upd sk N (nI m)) (upd sx N x) (upd sy N y) (upd sz N z) (upd sw N (nI W)) (upd dp N (nI D)) N := by
  have eW : sk_w (upd sw N (nI W)) N = W := by unfold sk_w; rw [pk_us, nI_clamp (by omega)]
  have eD : sk_w (upd dp N (nI D)) N = D := by unfold sk_w; rw [pk_us, nI_clamp (by omega)]
  have pW : ∀ p, p < N → sk_w (upd sw N (nI W)) p = sk_w sw p := fun p hp => by unfold sk_w; rw [pk_un (by omega)]
  have pD : ∀ p, p < N → sk_w (upd dp N (nI D)) p = sk_w dp p := fun p hp => by unfold sk_w; rw [pk_un (by omega)]
  unfold sk_stm
  rw [eW, eD]
  simp only [pk_us]
  have h1 : 1 ≤ W := by rcases h with ⟨_, v, p, h⟩ | ⟨_, a, p, q, h⟩ | ⟨_, p, q, h⟩ | ⟨_, p, q, _, _, _, _, h | ⟨r, h⟩⟩ | ⟨_, t, q, h⟩ | ⟨_, p, q, h⟩ | ⟨_, p, h⟩ <;> omega
  refine ⟨⟨trivial, trivial, h1, hW, hD⟩, ?_⟩
  rcases h with ⟨rfl, v, p, hv, hp, e1, e2, w, d⟩ | ⟨rfl, a, p, q, ha, hp, hq, e1, e2, e3, w, d⟩ | ⟨rfl, p, q, hp, hq, e1, e2, w, d⟩ | ⟨rfl, p, q, hp, hq, e1, e2, ⟨e3, w, d⟩ | ⟨r, hr, e3, w, d⟩⟩ | ⟨rfl, t, q, h1, h2, hq, e1, e2, w, d⟩ | ⟨rfl, p, q, hp, hq, e1, e2, w, d⟩ | ⟨rfl, p, hp, e1, w, d⟩
  · exact Or.inl ⟨rfl, v, p, hv, hp, e1, e2⟩
  · exact Or.inr (Or.inl ⟨rfl, a, p, q, ha, hp, hq, e1, e2, e3, by omega⟩)
  · exact Or.inr (Or.inr (Or.inl ⟨rfl, p, q, hp, hq, e1, e2, by rw [pW p hp, pW q hq]; omega, by rw [pD p hp]; omega, by rw [pD q hq]; omega⟩))
  · exact Or.inr (Or.inr (Or.inr (Or.inl ⟨rfl, p, q, hp, hq, e1, e2, by rw [pD q hq]; omega, by rw [pW q hq]; omega, Or.inl e3⟩)))
  · exact Or.inr (Or.inr (Or.inr (Or.inl ⟨rfl, p, q, hp, hq, e1, e2, by rw [pD q hq]; omega, by rw [pW q hq]; omega, Or.inr ⟨r, hr, e3, by rw [pD r hr]; omega, by rw [pW q hq, pW r hr]; omega⟩⟩)))
  · exact Or.inr (Or.inr (Or.inr (Or.inr (Or.inl ⟨rfl, t, q, h2, hq, e1, e2, by rw [pW q hq]; omega, by rw [pD q hq]; omega⟩))))
  · exact Or.inr (Or.inr (Or.inr (Or.inr (Or.inr (Or.inl ⟨rfl, p, q, hp, hq, e1, e2, by rw [pW q hq]; omega, by rw [pD q hq]; omega⟩)))))
  · exact Or.inr (Or.inr (Or.inr (Or.inr (Or.inr (Or.inr ⟨rfl, p, hp, e1⟩)))))
/-- X's state -/
theorem sk_xst {post : Int32 → SX → Prop} {m : Nat} {x y z : Int32} (hM : M ≤ 50) (hN : N < 40) (hwE : ∀ p, p < M → ew p = nI (sk_w ew p)) (hwS : ∀ p, p < N → sw p = nI (sk_w sw p)) (hdS : ∀ p, p < N → dp p = nI (sk_w dp p)) (hd3 : ∀ p, p < N → sk_w dp p ≤ 3) (hw30 : ∀ p, p < M → sk_w ew p ≤ 30) (hs30 : ∀ p, p < N → sk_w sw p ≤ 30) (hm : m ≤ 6) (H0 : ¬ (∃ W D, sk_sp M N ew sw dp m x y z W D) → post (-1) (nI M, nI N, lc, pc, pl, vs, es, lab, ek, ex, px, py, pz, ew, od, sec, rdo, sk, sx, sy, sz, sw, dp, so, sh, la, pa, vl, ps, pt, pr))
    (HF : ∀ W D, sk_sp M N ew sw dp m x y z W D → ¬ (W ≤ 30 ∧ D ≤ 3) → post (-2) (nI M, nI N, lc, pc, pl, vs, es, lab, ek, ex, px, py, pz, ew, od, sec, rdo, sk, sx, sy, sz, sw, dp, so, sh, la, pa, vl, ps, pt, pr))
    (HO : ∀ W D, sk_sp M N ew sw dp m x y z W D → W ≤ 30 → D ≤ 3 → ∀ so' sh' : sk_F, (∀ j, ¬ j = N → so' j = so j ∧ sh' j = sh j) → sk_sfe lab sec rdo (upd sk N (nI m)) (upd sx N x) (upd sy N y) (upd sz N z) so' sh' N → post (nI N) (nI M, nI (N + 1), lc, pc, pl, vs, es, lab, ek, ex, px, py, pz, ew, od, sec, rdo, upd sk N (nI m), upd sx N x, upd sy N y, upd sz N z, upd sw N (nI W), upd dp N (nI D), so', sh', la, pa, vl, ps, pt, pr)) : wpX_state post (nI M, nI N, lc, pc, pl, vs, es, lab, ek, ex, px, py, pz, ew, od, sec, rdo, sk, sx, sy, sz, sw, dp, so, sh, la, pa, vl, ps, pt, pr) (nI m) x y z := by
  have i : vp_in (nI N) 40 := vp_in_nI hN (by omega)
  have c := nI_clamp (show N < 2 ^ 31 by omega)
  refine br_t (nI_lt (b := 40) hN (by decide)) (br_f (nI_pos (by omega)) (br_f (nI_nlt (a := 6) hm (by decide)) ?_))
  refine sk_xsf hM (by omega) hm (fun h => br_f (by decide) ?_) (fun h => br_t rfl (H0 h))
  obtain ⟨W, D, h⟩ := h
  have hW : W ≤ 100 ∧ D ≤ 4 := by
    rcases h with ⟨_, v, p, _, hp, h⟩ | ⟨_, a, p, q, _, hp, hq, h⟩ | ⟨_, p, q, hp, hq, h⟩ | ⟨_, p, q, hp, hq, _, _, h | ⟨r, hr, h⟩⟩ | ⟨_, t, q, _, _, hq, h⟩ | ⟨_, p, q, hp, hq, h⟩ | ⟨_, p, hp, h⟩
    · have := hw30 p hp; omega
    · have := hw30 p hp; have := hw30 q hq; omega
    · have := hs30 p hp; have := hs30 q hq; have := hd3 p hp; have := hd3 q hq; omega
    · have := hw30 p hp; have := hs30 q hq; have := hd3 q hq; omega
    · have := hw30 p hp; have := hs30 q hq; have := hd3 q hq; have := hs30 r hr; have := hd3 r hr; omega
    · have := hs30 q hq; have := hd3 q hq; omega
    · have := hw30 p hp; have := hs30 q hq; have := hd3 q hq; omega
    · have := hw30 p hp; omega
  refine sk_xwo hM (by omega) hwE hwS hdS hd3 h (sk_xno hM (by omega) hwE hwS hdS hd3 h ?_)
  refine pk_lt 30 W (fun g => HF W D h (by omega)) (fun g => pk_le D 3 (fun g2 => nm_r (nI_1 N) ?_) (fun g2 => HF W D h (by omega)))
  rw [c]
  refine ⟨i, nm_e ⟨i, nm_e ⟨i, nm_e ⟨i, nm_e ⟨i, nm_e ⟨i, nm_e ?_⟩⟩⟩⟩⟩⟩
  exact sk_xjs hM hN (sk_news h g g2) (fun so' sh' a1 a2 => HO W D h g g2 so' sh' a1 a2)
end
section
variable {pl lc pc : Int32} {M N : Nat} {vs es lab ek ex ey ez px py pz ew od sec rdo sk sx sy sz sw dp so sh la pa vl ps pt pr : sk_F}
/-- the loop over statements -/
theorem sk_xl42 {post : Int32 → SX → Prop} (hM : M ≤ 50) (hN : N ≤ 40) (HS : ∀ s, s < N → sk_stm M ew sk sx sy sz sw dp s)
    (H : ∀ so' sh' : sk_F, (∀ s, s < N → sk_sfe lab sec rdo sk sx sy sz so' sh' s) → post 1 (nI M, nI N, lc, pc, pl, vs, es, lab, ek, ex, px, py, pz, ew, od, sec, rdo, sk, sx, sy, sz, sw, dp, so', sh', la, pa, vl, ps, pt, pr)) :
    ∀ (d i : Nat) (so sh : sk_F), i + d = N → (∀ s, s < i → sk_sfe lab sec rdo sk sx sy sz so sh s) → wX_label_42 post (d + 1) (nI i) (nI M) (nI N) lc pc pl vs es lab ek ex px py pz ew od sec rdo sk sx sy sz sw dp so sh la pa vl ps pt pr := by
  intro d
  induction d with
  | zero =>
    intro i so sh hi h
    have : i = N := by omega
    subst this
    exact br_t (nI_le (Nat.le_refl _) (by omega)) (H so sh h)
  | succ d ih =>
    intro i so sh hi h
    refine br_f (nI_ge (by omega) (by omega)) ?_
    refine sk_xjs hM (by omega) (HS i (by omega)) (fun so' sh' a1 a2 => nm_r (nI_1 i) (ih (i + 1) so' sh' (by omega) ?_))
    intro s hs
    by_cases hsi : s = i
    · subst hsi
      exact a2
    · exact sk_sfe_up hM (by omega) (HS s (by omega)) (fun _ _ => ⟨rfl, rfl⟩) (fun j hj => a1 j (by omega)) ⟨rfl, rfl, rfl, rfl⟩ (h s (by omega))
/-- the loop over expressions, then that over statements -/
theorem sk_xl21 {post : Int32 → SX → Prop} (hM : M ≤ 50) (hN : N ≤ 40) (HE : ∀ e, e < M → sk_node ek ex ey ez ew px py pz od e) (HS : ∀ s, s < N → sk_stm M ew sk sx sy sz sw dp s)
    (H : ∀ sec' rdo' so' sh' : sk_F, (∀ e, e < M → sk_se lab ek ex px py pz sec' rdo' e) → (∀ s, s < N → sk_sfe lab sec' rdo' sk sx sy sz so' sh' s) → post 1 (nI M, nI N, lc, pc, pl, vs, es, lab, ek, ex, px, py, pz, ew, od, sec', rdo', sk, sx, sy, sz, sw, dp, so', sh', la, pa, vl, ps, pt, pr)) :
    ∀ (d i : Nat) (sec rdo : sk_F), i + d = M → (∀ e, e < i → sk_se lab ek ex px py pz sec rdo e) → wX_label_21 post (d + 1) (nI i) (nI M) (nI N) lc pc pl vs es lab ek ex px py pz ew od sec rdo sk sx sy sz sw dp so sh la pa vl ps pt pr := by
  intro d
  induction d with
  | zero =>
    intro i sec rdo hi h
    have : i = M := by omega
    subst this
    refine br_t (nI_le (Nat.le_refl _) (by omega)) ⟨N + 1, ?_⟩
    exact sk_xl42 hM hN HS (fun so' sh' g => H sec rdo so' sh' h g) N 0 so sh (by omega) (fun s hs => absurd hs (by omega))
  | succ d ih =>
    intro i sec rdo hi h
    refine br_f (nI_ge (by omega) (by omega)) ?_
    refine sk_xje (by omega) (HE i (by omega)) (fun sec' rdo' a1 a2 => nm_r (nI_1 i) (ih (i + 1) sec' rdo' (by omega) ?_))
    intro e he
    by_cases hei : e = i
    · subst hei
      exact a2
    · exact sk_se_up (h e (by omega)) (by omega) (sk_node_pt (HE e (by omega))) (fun j hj => ⟨rfl, rfl, rfl, rfl, rfl, (a1 j (by omega)).1, (a1 j (by omega)).2⟩)
end
section
variable {lc pc de tp hg : Int32} {M N : Nat} {vs es lab ek ex ey ez ew hid wld sk sx sy sz sw dp oS hS la pa wk aw fd dg st rl ch : sk_F}
theorem sk_yit {post : Int32 → Prop} {x : Int32} {nM : Int32} (hN : N ≤ 40) (H1 : sk_is N x → post 1) (H0 : ¬ sk_is N x → post 0) : wpY_isStatement post (nM, nI N, lc, pc, de, tp, hg, ek, ex, ey, ez, ew, hid, wld, sk, sx, sy, sz, sw, dp, oS, hS, lab, vs, es, la, pa, wk, aw, fd, dg, st, rl, ch) x :=
  sk_is_c x (n := N) (by omega) (fun a b h => br_f a (br_f b (H1 h))) (fun h w => by rcases w with w | ⟨w, v⟩; exact br_t w (H0 h); exact br_f w (br_t v (H0 h)))
theorem sk_yft {post : Int32 → Prop} {m : Nat} {x y z : Int32} (hM : M ≤ 50) (hN : N ≤ 40) (hm : m ≤ 6) (H1 : (∃ W D, sk_sp M N ew sw dp m x y z W D) → post 1) (H0 : ¬ (∃ W D, sk_sp M N ew sw dp m x y z W D) → post 0) : wpY_fits post (nI M, nI N, lc, pc, de, tp, hg, ek, ex, ey, ez, ew, hid, wld, sk, sx, sy, sz, sw, dp, oS, hS, lab, vs, es, la, pa, wk, aw, fd, dg, st, rl, ch) (nI m) x y z := by
  have hm2 : m = 0 ∨ m = 1 ∨ m = 2 ∨ m = 3 ∨ m = 4 ∨ m = 5 ∨ m = 6 := by omega
  rcases hm2 with rfl | rfl | rfl | rfl | rfl | rfl | rfl
  · exact br_t rfl (sk_yin (n := 7) (by omega) rfl (fun a => br_f (by decide) (sk_yie hM (fun b => br_f (by decide) (H1 (sk_sq_0 ⟨a, b⟩))) (fun b => br_t rfl (H0 (fun w => b (sk_sp_0 w).2))))) (fun a => br_t rfl (H0 (fun w => a (sk_sp_0 w).1))))
  · exact br_f (by decide) (br_t rfl (sk_yin (n := 1) (by omega) rfl (fun a => br_f (by decide) (sk_yie hM (fun b => br_f (by decide) (sk_yie hM (fun d => br_f (by decide) (H1 (sk_sq_1 ⟨a, b, d⟩))) (fun d => br_t rfl (H0 (fun w => d (sk_sp_1 w).2.2))))) (fun b => br_t rfl (H0 (fun w => b (sk_sp_1 w).2.1))))) (fun a => br_t rfl (H0 (fun w => a (sk_sp_1 w).1)))))
  · exact br_f (by decide) (br_f (by decide) (br_t rfl (sk_yit hN (fun a => br_f (by decide) (sk_yit hN (fun b => br_f (by decide) (H1 (sk_sq_2 ⟨a, b⟩))) (fun b => br_t rfl (H0 (fun w => b (sk_sp_2 w).2))))) (fun a => br_t rfl (H0 (fun w => a (sk_sp_2 w).1))))))
  · exact br_f (by decide) (br_f (by decide) (br_f (by decide) (br_t rfl (sk_yie hM (fun a => br_f (by decide) (sk_yit hN (fun b => br_f (by decide) (br_c (fun d => H1 (sk_sq_3 ⟨a, b, Or.inl d⟩)) (fun d => sk_yit hN (fun f => br_f (by decide) (H1 (sk_sq_3 ⟨a, b, Or.inr f⟩))) (fun f => br_t rfl (H0 (fun w => (sk_sp_3 w).2.2.elim d f)))))) (fun b => br_t rfl (H0 (fun w => b (sk_sp_3 w).2.1))))) (fun a => br_t rfl (H0 (fun w => a (sk_sp_3 w).1)))))))
  · refine br_f (by decide) (br_f (by decide) (br_f (by decide) (br_f (by decide) (br_t rfl ?_))))
    exact br_c (fun a => br_t rfl (H0 (fun w => (sk_sp_4 w).1.1 a))) (fun a => br_c (fun b => br_t rfl (H0 (fun w => (sk_sp_4 w).1.2 b))) (fun b => br_f (by decide) (sk_yit hN (fun d => br_f (by decide) (H1 (sk_sq_4 ⟨⟨a, b⟩, d⟩))) (fun d => br_t rfl (H0 (fun w => d (sk_sp_4 w).2))))))
  · exact br_f (by decide) (br_f (by decide) (br_f (by decide) (br_f (by decide) (br_f (by decide) (br_t rfl (sk_yie hM (fun a => br_f (by decide) (sk_yit hN (fun b => br_f (by decide) (H1 (sk_sq_5 ⟨a, b⟩))) (fun b => br_t rfl (H0 (fun w => b (sk_sp_5 w).2))))) (fun a => br_t rfl (H0 (fun w => a (sk_sp_5 w).1)))))))))
  · exact br_f (by decide) (br_f (by decide) (br_f (by decide) (br_f (by decide) (br_f (by decide) (br_f (by decide) ((sk_yie hM (fun a => ⟨rfl, H1 (sk_sq_6 a)⟩) (fun a => ⟨rfl, H0 (fun w => a (sk_sp_6 w))⟩))))))))
theorem sk_ywo {post : Int32 → Prop} {m W D : Nat} {x y z : Int32} (hM : M ≤ 50) (hN : N ≤ 40) (hwE : ∀ p, p < M → ew p = nI (sk_w ew p)) (hwS : ∀ p, p < N → sw p = nI (sk_w sw p)) (hdS : ∀ p, p < N → dp p = nI (sk_w dp p)) (hd3 : ∀ p, p < N → sk_w dp p ≤ 3) (h : sk_sp M N ew sw dp m x y z W D) (H : post (nI W)) : wpY_weigh post (nI M, nI N, lc, pc, de, tp, hg, ek, ex, ey, ez, ew, hid, wld, sk, sx, sy, sz, sw, dp, oS, hS, lab, vs, es, la, pa, wk, aw, fd, dg, st, rl, ch) (nI m) x y z := by
  have iE : ∀ p, p < M → vp_in (nI p) 50 := fun p hp => vp_in_nI (by omega) (by omega)
  have iS : ∀ p, p < N → vp_in (nI p) 40 := fun p hp => vp_in_nI (by omega) (by omega)
  have eE : ∀ p, p < M → ew (nI p).toNatClampNeg = nI (sk_w ew p) := fun p hp => by rw [nI_clamp (by omega)]; exact hwE p hp
  have eS : ∀ p, p < N → sw (nI p).toNatClampNeg = nI (sk_w sw p) := fun p hp => by rw [nI_clamp (by omega)]; exact hwS p hp
  have eD : ∀ p, p < N → dp (nI p).toNatClampNeg = nI (sk_w dp p) := fun p hp => by rw [nI_clamp (by omega)]; exact hdS p hp
  have o1 : (1 : Int32) = nI 1 := rfl
  have o0 : (0 : Int32) = nI 0 := rfl
  unfold wpY_weigh
  dsimp only
  rcases h with ⟨rfl, v, p, hv, hp, rfl, rfl, rfl, rfl⟩ | ⟨rfl, a, p, q, ha, hp, hq, rfl, rfl, rfl, rfl, rfl⟩ | ⟨rfl, p, q, hp, hq, rfl, rfl, rfl, rfl⟩ | ⟨rfl, p, q, hp, hq, rfl, rfl, ⟨rfl, rfl, rfl⟩ | ⟨r, hr, rfl, rfl, rfl⟩⟩ | ⟨rfl, t, q, h1, h2, hq, rfl, rfl, rfl, rfl⟩ | ⟨rfl, p, q, hp, hq, rfl, rfl, rfl, rfl⟩ | ⟨rfl, p, hp, rfl, rfl, rfl⟩
  · rw [eE p hp]
    refine br_t rfl ⟨iE p hp, ?_⟩
    rw [o1, nI_add]
    exact H
  · rw [eE p hp, eE q hq]
    refine br_f (by decide) (br_t rfl ⟨iE p hp, iE q hq, ?_⟩)
    rw [o1, nI_add, nI_add]
    exact H
  · rw [eS p hp, eS q hq]
    refine br_f (by decide) (br_f (by decide) (br_t rfl ⟨iS p hp, iS q hq, ?_⟩))
    rw [o1, nI_add, nI_add]
    exact H
  · rw [eE p hp, eS q hq]
    refine br_f (by decide) (br_f (by decide) (br_f (by decide) (br_t rfl ⟨iE p hp, iS q hq, br_f (by decide) ?_⟩)))
    rw [o1, nI_add, nI_add, o0, nI_add]
    exact H
  · rw [eE p hp, eS q hq, eS r hr]
    refine br_f (by decide) (br_f (by decide) (br_f (by decide) (br_t rfl ⟨iE p hp, iS q hq, br_t (nI_pos' (by omega)) ⟨iS r hr, ?_⟩⟩)))
    rw [o1, nI_add, nI_add, nI_add]
    exact H
  · rw [eS q hq]
    refine br_f (by decide) (br_f (by decide) (br_f (by decide) (br_f (by decide) (br_t rfl ⟨iS q hq, ?_⟩))))
    rw [o1, nI_add]
    exact H
  · rw [eE p hp, eS q hq]
    refine br_f (by decide) (br_f (by decide) (br_f (by decide) (br_f (by decide) (br_f (by decide) ⟨iE p hp, br_t rfl ⟨iS q hq, ?_⟩⟩))))
    rw [o1, nI_add, nI_add]
    exact H
  · rw [eE p hp]
    refine br_f (by decide) (br_f (by decide) (br_f (by decide) (br_f (by decide) (br_f (by decide) ⟨iE p hp, br_f (by decide) ?_⟩))))
    rw [o1, nI_add, o0, nI_add]
    exact H
theorem sk_ylo {post : Int32 → Prop} {m W D : Nat} {x y z : Int32} (hM : M ≤ 50) (hN : N ≤ 40) (hwE : ∀ p, p < M → ew p = nI (sk_w ew p)) (hwS : ∀ p, p < N → sw p = nI (sk_w sw p)) (hdS : ∀ p, p < N → dp p = nI (sk_w dp p)) (hd3 : ∀ p, p < N → sk_w dp p ≤ 3) (h : sk_sp M N ew sw dp m x y z W D) (H : post (nI D)) : wpY_loops post (nI M, nI N, lc, pc, de, tp, hg, ek, ex, ey, ez, ew, hid, wld, sk, sx, sy, sz, sw, dp, oS, hS, lab, vs, es, la, pa, wk, aw, fd, dg, st, rl, ch) (nI m) x y z := by
  have iE : ∀ p, p < M → vp_in (nI p) 50 := fun p hp => vp_in_nI (by omega) (by omega)
  have iS : ∀ p, p < N → vp_in (nI p) 40 := fun p hp => vp_in_nI (by omega) (by omega)
  have eE : ∀ p, p < M → ew (nI p).toNatClampNeg = nI (sk_w ew p) := fun p hp => by rw [nI_clamp (by omega)]; exact hwE p hp
  have eS : ∀ p, p < N → sw (nI p).toNatClampNeg = nI (sk_w sw p) := fun p hp => by rw [nI_clamp (by omega)]; exact hwS p hp
  have eD : ∀ p, p < N → dp (nI p).toNatClampNeg = nI (sk_w dp p) := fun p hp => by rw [nI_clamp (by omega)]; exact hdS p hp
  have o1 : (1 : Int32) = nI 1 := rfl
  have o0 : (0 : Int32) = nI 0 := rfl
  unfold wpY_loops wY_loops_45 wY_loops_76
  dsimp only
  rcases h with ⟨rfl, v, p, hv, hp, rfl, rfl, rfl, rfl⟩ | ⟨rfl, a, p, q, ha, hp, hq, rfl, rfl, rfl, rfl, rfl⟩ | ⟨rfl, p, q, hp, hq, rfl, rfl, rfl, rfl⟩ | ⟨rfl, p, q, hp, hq, rfl, rfl, ⟨rfl, rfl, rfl⟩ | ⟨r, hr, rfl, rfl, rfl⟩⟩ | ⟨rfl, t, q, h1, h2, hq, rfl, rfl, rfl, rfl⟩ | ⟨rfl, p, q, hp, hq, rfl, rfl, rfl, rfl⟩ | ⟨rfl, p, hp, rfl, rfl, rfl⟩
  · exact br_t (by decide) H
  · exact br_t (by decide) H
  · rw [eD p hp, eD q hq]
    have := hd3 p hp
    have := hd3 q hq
    refine br_f (by decide) (br_f (by decide) ⟨iS q hq, nm_e (br_t rfl ⟨iS p hp, pk_le (sk_w dp p) (sk_w dp q) (fun g => br_f (by decide) (br_t (by decide) ?_)) (fun g => ⟨iS p hp, nm_e (br_f (by decide) (br_t (by decide) ?_))⟩)⟩)⟩)
    · rw [o0, nI_add, Nat.add_zero]
      rw [Nat.max_eq_right g] at H
      exact H
    · rw [o0, nI_add, Nat.add_zero]
      rw [Nat.max_eq_left (by omega)] at H
      exact H
  · rw [eD q hq]
    refine br_f (by decide) (br_f (by decide) ⟨iS q hq, nm_e (br_f (by decide) (br_t rfl (br_t (by decide) (br_t (by decide) ?_))))⟩)
    rw [o0, nI_add]
    exact H
  · rw [eD q hq, eD r hr]
    have := hd3 r hr
    have := hd3 q hq
    refine br_f (by decide) (br_f (by decide) ⟨iS q hq, nm_e (br_f (by decide) (br_t rfl (br_f (nI_pos (by omega)) ⟨iS r hr, pk_le (sk_w dp r) (sk_w dp q) (fun g => br_t (by decide) ?_) (fun g => ⟨iS r hr, nm_e (br_t (by decide) ?_)⟩)⟩)))⟩)
    · rw [o0, nI_add, Nat.add_zero]
      rw [Nat.max_eq_left g] at H
      exact H
    · rw [o0, nI_add, Nat.add_zero]
      rw [Nat.max_eq_right (by omega)] at H
      exact H
  · rw [eD q hq]
    refine br_f (by decide) (br_f (by decide) ⟨iS q hq, nm_e (br_f (by decide) (br_f (by decide) (br_f (by decide) ?_)))⟩)
    rw [o1, nI_add, Nat.add_comm]
    exact H
  · rw [eD q hq]
    refine br_f (by decide) (br_f (by decide) ⟨iS q hq, nm_e (br_f (by decide) (br_f (by decide) (br_f (by decide) ?_)))⟩)
    rw [o1, nI_add, Nat.add_comm]
    exact H
  · exact br_f (by decide) (br_t rfl H)
theorem sk_sp_u {m W D W' D' : Nat} {x y z : Int32} (hM : M ≤ 50) (hN : N ≤ 40) (h : sk_sp M N ew sw dp m x y z W D) (h' : sk_sp M N ew sw dp m x y z W' D') : W' = W ∧ D' = D := by
  have u : ∀ a b : Nat, a < 50 → b < 50 → nI a = nI b → a = b := fun a b ha hb e => (nI_eq (by omega) (by omega)).mp e
  rcases h with ⟨rfl, v, p, hv, hp, rfl, rfl, rfl, rfl⟩ | ⟨rfl, a, p, q, ha, hp, hq, rfl, rfl, rfl, rfl, rfl⟩ | ⟨rfl, p, q, hp, hq, rfl, rfl, rfl, rfl⟩ | ⟨rfl, p, q, hp, hq, rfl, rfl, ⟨rfl, rfl, rfl⟩ | ⟨r, hr, rfl, rfl, rfl⟩⟩ | ⟨rfl, t, q, h1, h2, hq, rfl, rfl, rfl, rfl⟩ | ⟨rfl, p, q, hp, hq, rfl, rfl, rfl, rfl⟩ | ⟨rfl, p, hp, rfl, rfl, rfl⟩
  · rcases h' with ⟨_, v', p', hv', hp', e1, e2, w, d⟩ | ⟨k, _⟩ | ⟨k, _⟩ | ⟨k, _⟩ | ⟨k, _⟩ | ⟨k, _⟩ | ⟨k, _⟩
    · cases u _ _ (by omega) (by omega) e2
      exact ⟨w, d⟩
    all_goals exact absurd k (by decide)
  · rcases h' with ⟨k, _⟩ | ⟨_, a', p', q', ha', hp', hq', e1, e2, e3, w, d⟩ | ⟨k, _⟩ | ⟨k, _⟩ | ⟨k, _⟩ | ⟨k, _⟩ | ⟨k, _⟩
    · exact absurd k (by decide)
    · cases u _ _ (by omega) (by omega) e2
      cases u _ _ (by omega) (by omega) e3
      exact ⟨w, d⟩
    all_goals exact absurd k (by decide)
  · rcases h' with ⟨k, _⟩ | ⟨k, _⟩ | ⟨_, p', q', hp', hq', e1, e2, w, d⟩ | ⟨k, _⟩ | ⟨k, _⟩ | ⟨k, _⟩ | ⟨k, _⟩
    · exact absurd k (by decide)
    · exact absurd k (by decide)
    · cases u _ _ (by omega) (by omega) e1
      cases u _ _ (by omega) (by omega) e2
      exact ⟨w, d⟩
    all_goals exact absurd k (by decide)
  · rcases h' with ⟨k, _⟩ | ⟨k, _⟩ | ⟨k, _⟩ | ⟨_, p', q', hp', hq', e1, e2, ⟨_, w, d⟩ | ⟨r', hr', e3, w, d⟩⟩ | ⟨k, _⟩ | ⟨k, _⟩ | ⟨k, _⟩
    · exact absurd k (by decide)
    · exact absurd k (by decide)
    · exact absurd k (by decide)
    · cases u _ _ (by omega) (by omega) e1
      cases u _ _ (by omega) (by omega) e2
      exact ⟨w, d⟩
    · exact absurd e3.symm (sk_m1 (by omega))
    all_goals exact absurd k (by decide)
  · rcases h' with ⟨k, _⟩ | ⟨k, _⟩ | ⟨k, _⟩ | ⟨_, p', q', hp', hq', e1, e2, ⟨e3, w, d⟩ | ⟨r', hr', e3, w, d⟩⟩ | ⟨k, _⟩ | ⟨k, _⟩ | ⟨k, _⟩
    · exact absurd k (by decide)
    · exact absurd k (by decide)
    · exact absurd k (by decide)
    · exact absurd e3 (sk_m1 (by omega))
    · cases u _ _ (by omega) (by omega) e1
      cases u _ _ (by omega) (by omega) e2
      cases u _ _ (by omega) (by omega) e3
      exact ⟨w, d⟩
    all_goals exact absurd k (by decide)
  · rcases h' with ⟨k, _⟩ | ⟨k, _⟩ | ⟨k, _⟩ | ⟨k, _⟩ | ⟨_, t', q', _, _, hq', e1, e2, w, d⟩ | ⟨k, _⟩ | ⟨k, _⟩
    · exact absurd k (by decide)
    · exact absurd k (by decide)
    · exact absurd k (by decide)
    · exact absurd k (by decide)
    · cases u _ _ (by omega) (by omega) e2
      exact ⟨w, d⟩
    all_goals exact absurd k (by decide)
  · rcases h' with ⟨k, _⟩ | ⟨k, _⟩ | ⟨k, _⟩ | ⟨k, _⟩ | ⟨k, _⟩ | ⟨_, p', q', hp', hq', e1, e2, w, d⟩ | ⟨k, _⟩
    · exact absurd k (by decide)
    · exact absurd k (by decide)
    · exact absurd k (by decide)
    · exact absurd k (by decide)
    · exact absurd k (by decide)
    · cases u _ _ (by omega) (by omega) e1
      cases u _ _ (by omega) (by omega) e2
      exact ⟨w, d⟩
    · exact absurd k (by decide)
  · rcases h' with ⟨k, _⟩ | ⟨k, _⟩ | ⟨k, _⟩ | ⟨k, _⟩ | ⟨k, _⟩ | ⟨k, _⟩ | ⟨_, p', hp', e1, w, d⟩
    · exact absurd k (by decide)
    · exact absurd k (by decide)
    · exact absurd k (by decide)
    · exact absurd k (by decide)
    · exact absurd k (by decide)
    · exact absurd k (by decide)
    · cases u _ _ (by omega) (by omega) e1
      exact ⟨w, d⟩
/-- Y's state, where X's weight and loops are known -/
theorem sk_yst {post : Int32 → SY → Prop} {m : Nat} {x y z : Int32} (hM : M ≤ 50) (hN : N < 40) (hwE : ∀ p, p < M → ew p = nI (sk_w ew p)) (hwS : ∀ p, p < N → sw p = nI (sk_w sw p)) (hdS : ∀ p, p < N → dp p = nI (sk_w dp p)) (hd3 : ∀ p, p < N → sk_w dp p ≤ 3) (hm : m ≤ 6) (H0 : ¬ (∃ W D, sk_sp M N ew sw dp m x y z W D) → post (-1) (nI M, nI N, lc, pc, de, tp, hg, ek, ex, ey, ez, ew, hid, wld, sk, sx, sy, sz, sw, dp, oS, hS, lab, vs, es, la, pa, wk, aw, fd, dg, st, rl, ch))
    (HF : ∀ W D, sk_sp M N ew sw dp m x y z W D → ¬ (W ≤ 30 ∧ D ≤ 3) → post (-2) (nI M, nI N, lc, pc, de, tp, hg, ek, ex, ey, ez, ew, hid, wld, sk, sx, sy, sz, sw, dp, oS, hS, lab, vs, es, la, pa, wk, aw, fd, dg, st, rl, ch)) (hWD : ∀ W D, sk_sp M N ew sw dp m x y z W D → W ≤ 100 ∧ D ≤ 4)
    (HO : ∀ W D, sk_sp M N ew sw dp m x y z W D → W ≤ 30 → D ≤ 3 → post (nI N) (nI M, nI (N + 1), lc, pc, de, tp, hg, ek, ex, ey, ez, ew, hid, wld, upd sk N (nI m), upd sx N x, upd sy N y, upd sz N z, upd sw N (nI W), upd dp N (nI D), oS, hS, lab, vs, es, la, pa, wk, aw, fd, dg, st, rl, ch)) : wpY_state post (nI M, nI N, lc, pc, de, tp, hg, ek, ex, ey, ez, ew, hid, wld, sk, sx, sy, sz, sw, dp, oS, hS, lab, vs, es, la, pa, wk, aw, fd, dg, st, rl, ch) (nI m) x y z := by
  have i : vp_in (nI N) 40 := vp_in_nI hN (by omega)
  have c := nI_clamp (show N < 2 ^ 31 by omega)
  refine br_f (fun w => absurd ((nI_eq (b := 40) (by omega) (by omega)).mp w) (by omega)) ?_
  refine sk_yin (n := 6) (by omega) rfl (fun _ => br_f (by decide) ?_) (fun w => absurd ⟨m, by omega, rfl⟩ w)
  refine sk_yft hM (by omega) hm (fun h => br_f (by decide) ?_) (fun h => br_t rfl (H0 h))
  obtain ⟨W, D, h⟩ := h
  obtain ⟨_, _⟩ := hWD W D h
  refine sk_ywo hM (by omega) hwE hwS hdS hd3 h (sk_ylo hM (by omega) hwE hwS hdS hd3 h ?_)
  refine pk_lt 30 W (fun g => HF W D h (by omega)) (fun g => pk_le D 3 (fun g2 => ?_) (fun g2 => HF W D h (by omega)))
  rw [c]
  refine ⟨i, nm_e ⟨i, nm_e ⟨i, nm_e ⟨i, nm_e ⟨i, nm_e ⟨i, nm_e (nm_r (nI_1 N) ?_)⟩⟩⟩⟩⟩⟩
  rw [nI_pred]
  exact HO W D h g g2
end
