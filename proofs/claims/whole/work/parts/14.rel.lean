/-! 14: a new node is as it must be; the relation -/
section
variable {M N : Nat} {ek ex ey ez px py pz ew od od' : sk_F}
theorem sk_newn {m W : Nat} {x y z q1 q2 q3 : Int32} (hM : M < 50) (hm : m ≤ 14) (hfit : sk_fit M m x y z) (f1 : sk_fl (3 ≤ m) x q1 M) (f2 : sk_fl (m = 2 ∨ (3 ≤ m ∧ ¬ m = 13)) y q2 M) (f3 : sk_fl (m = 14) z q3 M)
    (hWe : W = sk_pw ew q1 + sk_pw ew q2 + sk_pw ew q3 + 1) (hW : W ≤ 30)
    (o2 : ∀ p, p < M → q1 = nI p → ∀ j, j < sk_w ew p → od' (30 * M + 0 + j) = od' (30 * p + j)) (o3 : ∀ p, p < M → q2 = nI p → ∀ j, j < sk_w ew p → od' (30 * M + sk_pw ew q1 + j) = od' (30 * p + j))
    (o4 : ∀ p, p < M → q3 = nI p → ∀ j, j < sk_w ew p → od' (30 * M + (sk_pw ew q1 + sk_pw ew q2) + j) = od' (30 * p + j)) (o5 : od' (30 * M + (sk_pw ew q1 + sk_pw ew q2 + sk_pw ew q3)) = nI M) :
    sk_node (upd ek M (nI m)) (upd ex M x) (upd ey M y) (upd ez M z) (upd ew M (nI W)) (upd px M q1) (upd py M q2) (upd pz M q3) od' M := by
  have eW : sk_w (upd ew M (nI W)) M = W := by unfold sk_w; rw [pk_us, nI_clamp (by omega)]
  have pW : ∀ p, p < M → sk_w (upd ew M (nI W)) p = sk_w ew p := fun p hp => by unfold sk_w; rw [pk_un (by omega)]
  have pwn : ∀ p, p < M → sk_pw ew (nI p) = sk_w ew p := fun p hp => by unfold sk_pw; rw [if_neg (sk_m1 (by omega)), nI_clamp (by omega)]
  have pw0 : sk_pw ew (-1) = 0 := if_pos rfl
  have sg : ∀ (b p : Nat), p < M → (∀ j, j < sk_w ew p → od' (b + j) = od' (30 * p + j)) → sk_seg (upd ew M (nI W)) od' b p := by
    intro b p hp h j hj
    rw [pW p hp] at hj
    exact h j hj
  have o6 : od' (30 * M + (W - 1)) = nI M := by
    rw [← o5]
    congr 2
    omega
  refine ⟨⟨by rw [eW]; exact pk_us, by rw [eW]; exact hW, by rw [eW]; exact o6⟩, ?_⟩
  rw [eW]
  by_cases hb : 3 ≤ m ∧ m ≤ 12
  · obtain ⟨p, hp, rfl, rfl⟩ := f1.1 hb.1
    obtain ⟨q, hq, rfl, rfl⟩ := f2.1 (Or.inr ⟨hb.1, by omega⟩)
    have e3 := f3.2 (by omega)
    subst e3
    rw [pwn p hp, pwn q hq, pw0] at hWe
    rw [pwn p hp] at o3
    exact Or.inr (Or.inr (Or.inr (Or.inr (Or.inr ⟨⟨m, hb.1, hb.2, pk_us⟩, pk_us, p, q, hp, hq, pk_us, pk_us, pk_us, pk_us, by rw [pW p hp, pW q hq]; omega, sg _ p hp (o2 p hp rfl), by rw [pW p hp]; exact sg _ q hq (o3 q hq rfl)⟩))))
  · have hm2 : m = 0 ∨ m = 1 ∨ m = 2 ∨ m = 13 ∨ m = 14 := by omega
    rcases hm2 with rfl | rfl | rfl | rfl | rfl
    · have e1 := f1.2 (by omega)
      have e2 := f2.2 (by omega)
      have e3 := f3.2 (by omega)
      subst e1 e2 e3
      rw [pw0] at hWe
      exact Or.inl ⟨pk_us, by omega, pk_us, pk_us, pk_us⟩
    · have e1 := f1.2 (by omega)
      have e2 := f2.2 (by omega)
      have e3 := f3.2 (by omega)
      subst e1 e2 e3
      rw [pw0] at hWe
      obtain ⟨v, hv, hx⟩ := (show sk_is 8 x from hfit)
      exact Or.inr (Or.inl ⟨pk_us, by omega, pk_us, pk_us, pk_us, v, hv, pk_us.trans hx⟩)
    · have e1 := f1.2 (by omega)
      have e3 := f3.2 (by omega)
      subst e1 e3
      obtain ⟨p, hp, rfl, rfl⟩ := f2.1 (Or.inl rfl)
      rw [pw0, pwn p hp] at hWe
      rw [pw0] at o3
      obtain ⟨a, ha, hx⟩ := (show sk_is 2 x ∧ sk_is M (nI p) from hfit).1
      exact Or.inr (Or.inr (Or.inl ⟨pk_us, pk_us, pk_us, a, p, ha, hp, pk_us.trans hx, pk_us, pk_us, by rw [pW p hp]; omega, sg _ p hp (o3 p hp rfl)⟩))
    · have e2 := f2.2 (by omega)
      have e3 := f3.2 (by omega)
      subst e2 e3
      obtain ⟨p, hp, rfl, rfl⟩ := f1.1 (by omega)
      rw [pw0, pwn p hp] at hWe
      exact Or.inr (Or.inr (Or.inr (Or.inl ⟨pk_us, pk_us, pk_us, p, hp, pk_us, pk_us, by rw [pW p hp]; omega, sg _ p hp (o2 p hp rfl)⟩)))
    · obtain ⟨p, hp, rfl, rfl⟩ := f1.1 (by omega)
      obtain ⟨q, hq, rfl, rfl⟩ := f2.1 (by omega)
      obtain ⟨r, hr, rfl, rfl⟩ := f3.1 (by omega)
      rw [pwn p hp, pwn q hq, pwn r hr] at hWe
      rw [pwn p hp] at o3
      rw [pwn p hp, pwn q hq] at o4
      exact Or.inr (Or.inr (Or.inr (Or.inr (Or.inl ⟨pk_us, p, q, r, hp, hq, hr, pk_us, pk_us, pk_us, pk_us, pk_us, pk_us, by rw [pW p hp, pW q hq, pW r hr]; omega, sg _ p hp (o2 p hp rfl), by rw [pW p hp]; exact sg _ q hq (o3 q hq rfl), by rw [pW p hp, pW q hq, Nat.add_assoc]; exact sg _ r hr (o4 r hr rfl)⟩))))
end
def sk_Inv (M N : Nat) (lab ek ex ey ez ew px py pz od sec rdo sk sx sy sz sw dp so sh : sk_F) : Prop :=
  M ≤ 50 ∧ N ≤ 40 ∧ (∀ e, e < M → sk_node ek ex ey ez ew px py pz od e) ∧ (∀ e, e < M → sk_se lab ek ex px py pz sec rdo e) ∧ (∀ s, s < N → sk_stm M ew sk sx sy sz sw dp s) ∧ (∀ s, s < N → sk_sfe lab sec rdo sk sx sy sz so sh s)
/-- the relation: what both keep is the same; X's tables are as they must be; Y's own finds and both scratches are free -/
def i_Rel (k : Nat) (u : SX) (v : SY) : Prop :=
  ∃ (M N : Nat) (lc pc pl de tp hg : Int32) (vs es lab ek ex px py pz ew od sec rdo sk sx sy sz sw dp so sh la pa vl ps pt pr ey ez hid wld oS hS wk aw fd dg st rl ch : sk_F), u = (nI M, nI N, lc, pc, pl, vs, es, lab, ek, ex, px, py, pz, ew, od, sec, rdo, sk, sx, sy, sz, sw, dp, so, sh, la, pa, vl, ps, pt, pr) ∧ v = (nI M, nI N, lc, pc, de, tp, hg, ek, ex, ey, ez, ew, hid, wld, sk, sx, sy, sz, sw, dp, oS, hS, lab, vs, es, la, pa, wk, aw, fd, dg, st, rl, ch) ∧ sk_Inv M N lab ek ex ey ez ew px py pz od sec rdo sk sx sy sz sw dp so sh
theorem i_up {k : Nat} {u : SX} {v : SY} (h : i_Rel k u v) : i_Rel (k + 5) u v := h
section
variable {k M N : Nat} {lc pc pl de tp hg : Int32} {vs es lab ek ex px py pz ew od sec rdo sk sx sy sz sw dp so sh la pa vl ps pt pr ey ez hid wld oS hS wk aw fd dg st rl ch : sk_F}
theorem sk_rel (I : sk_Inv M N lab ek ex ey ez ew px py pz od sec rdo sk sx sy sz sw dp so sh) : i_Rel k (nI M, nI N, lc, pc, pl, vs, es, lab, ek, ex, px, py, pz, ew, od, sec, rdo, sk, sx, sy, sz, sw, dp, so, sh, la, pa, vl, ps, pt, pr) (nI M, nI N, lc, pc, de, tp, hg, ek, ex, ey, ez, ew, hid, wld, sk, sx, sy, sz, sw, dp, oS, hS, lab, vs, es, la, pa, wk, aw, fd, dg, st, rl, ch) :=
  ⟨M, N, lc, pc, pl, de, tp, hg, vs, es, lab, ek, ex, px, py, pz, ew, od, sec, rdo, sk, sx, sy, sz, sw, dp, so, sh, la, pa, vl, ps, pt, pr, ey, ez, hid, wld, oS, hS, wk, aw, fd, dg, st, rl, ch, rfl, rfl, I⟩
end
theorem i_vc0 : wpX_init (fun u => wpY_init (fun v => i_Rel 0 u v)) :=
  ⟨0, 0, 0, 0, 0, 0, 0, 0, (fun _ => 0), (fun _ => 0), (fun _ => 0), (fun _ => 0), (fun _ => 0), (fun _ => 0), (fun _ => 0), (fun _ => 0), (fun _ => 0), (fun _ => 0), (fun _ => 0), (fun _ => 0), (fun _ => 0), (fun _ => 0), (fun _ => 0), (fun _ => 0), (fun _ => 0), (fun _ => 0), (fun _ => 0), (fun _ => 0), (fun _ => 0), (fun _ => 0), (fun _ => 0), (fun _ => 0), (fun _ => 0), (fun _ => 0), (fun _ => 0), (fun _ => 0), (fun _ => 0), (fun _ => 0), (fun _ => 0), (fun _ => 0), (fun _ => 0), (fun _ => 0), (fun _ => 0), (fun _ => 0), (fun _ => 0), (fun _ => 0), (fun _ => 0), rfl, rfl, by omega, by omega, fun _ h => absurd h (Nat.not_lt_zero _), fun _ h => absurd h (Nat.not_lt_zero _), fun _ h => absurd h (Nat.not_lt_zero _), fun _ h => absurd h (Nat.not_lt_zero _)⟩
