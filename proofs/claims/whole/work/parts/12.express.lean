/-! 12: express -/
def sk_pw (ew : sk_F) (x : Int32) : Nat := if x = -1 then 0 else sk_w ew x.toNatClampNeg
def sk_is (n : Nat) (x : Int32) : Prop := ∃ j, j < n ∧ x = nI j
def sk_q1 (m : Nat) (x : Int32) : Int32 := if 3 ≤ m then x else -1
def sk_q2 (m : Nat) (y : Int32) : Int32 := if m = 2 ∨ (3 ≤ m ∧ ¬ m = 13) then y else -1
def sk_q3 (m : Nat) (z : Int32) : Int32 := if m = 14 then z else -1
def sk_fit (M m : Nat) (x y z : Int32) : Prop :=
  if m = 0 then True else if m = 1 then sk_is 8 x else if m = 2 then sk_is 2 x ∧ sk_is M y else if m = 13 then sk_is M x else if m = 14 then sk_is M x ∧ sk_is M y ∧ sk_is M z else sk_is M x ∧ sk_is M y
theorem sk_fit_b {M m : Nat} {x y z : Int32} (h : 3 ≤ m) (h2 : m ≤ 12) : sk_fit M m x y z ↔ (sk_is M x ∧ sk_is M y) := by
  unfold sk_fit
  rw [if_neg (by omega), if_neg (by omega), if_neg (by omega), if_neg (by omega), if_neg (by omega)]
/-- the parts that a fitting expression has -/
theorem sk_fit_fl {M m : Nat} {x y z : Int32} (hm : m ≤ 14) (h : sk_fit M m x y z) : sk_fl (3 ≤ m) x (sk_q1 m x) M ∧ sk_fl (m = 2 ∨ (3 ≤ m ∧ ¬ m = 13)) y (sk_q2 m y) M ∧ sk_fl (m = 14) z (sk_q3 m z) M := by
  have hx : 3 ≤ m → sk_is M x := by
    intro h3
    unfold sk_fit at h
    rw [if_neg (by omega), if_neg (by omega), if_neg (by omega)] at h
    by_cases h13 : m = 13
    · rw [if_pos h13] at h
      exact h
    · rw [if_neg h13] at h
      by_cases h14 : m = 14
      · rw [if_pos h14] at h
        exact h.1
      · rw [if_neg h14] at h
        exact h.1
  have hy : (m = 2 ∨ (3 ≤ m ∧ ¬ m = 13)) → sk_is M y := by
    intro h3
    unfold sk_fit at h
    rw [if_neg (by omega), if_neg (by omega)] at h
    by_cases h2 : m = 2
    · rw [if_pos h2] at h
      exact h.2
    · rw [if_neg h2, if_neg (by omega)] at h
      by_cases h14 : m = 14
      · rw [if_pos h14] at h
        exact h.2.1
      · rw [if_neg h14] at h
        exact h.2
  have hz : m = 14 → sk_is M z := by
    intro h14
    subst h14
    exact h.2.2
  refine ⟨⟨fun c => ?_, fun c => if_neg c⟩, ⟨fun c => ?_, fun c => if_neg c⟩, ⟨fun c => ?_, fun c => if_neg c⟩⟩
  · obtain ⟨p, hp, e⟩ := hx c
    exact ⟨p, hp, e, (if_pos c).trans e⟩
  · obtain ⟨p, hp, e⟩ := hy c
    exact ⟨p, hp, e, (if_pos c).trans e⟩
  · obtain ⟨p, hp, e⟩ := hz c
    exact ⟨p, hp, e, (if_pos c).trans e⟩
theorem sk_fl_pt {c : Prop} {x q : Int32} {M : Nat} (h : sk_fl c x q M) : sk_pt q M := by
  by_cases hc : c
  · obtain ⟨p, hp, _, e⟩ := h.1 hc
    exact Or.inr ⟨p, hp, e⟩
  · exact Or.inl (h.2 hc)
theorem sk_is_c {P : Prop} (x : Int32) {n : Nat} (hn : n < 2 ^ 31) (H1 : (h0 : ¬ x < 0) → (h1 : ¬ nI n ≤ x) → sk_is n x → P) (H0 : ¬ sk_is n x → (x < 0 ∨ (¬ x < 0 ∧ nI n ≤ x)) → P) : P := by
  have neg : (x < 0 ∨ nI n ≤ x) → ¬ sk_is n x := by
    intro h w
    obtain ⟨j, hj, e⟩ := w
    rw [e] at h
    rcases h with h | h
    · exact nI_pos (by omega) h
    · exact nI_ge hj hn h
  by_cases h : x < 0
  · exact H0 (neg (Or.inl h)) (Or.inl h)
  · by_cases h2 : nI n ≤ x
    · exact H0 (neg (Or.inr h2)) (Or.inr ⟨h, h2⟩)
    · rcases pk_ix x hn with w | w | w
      · exact absurd w h
      · exact absurd w h2
      · exact H1 h h2 w
section
variable {nM nN pl lc pc : Int32} {M N : Nat} {vs es lab ek ex ey ez px py pz ew od sec rdo sk sx sy sz sw dp so sh la pa vl ps pt pr : sk_F}
theorem sk_xiv {post : Int32 → Prop} {x : Int32} (H1 : sk_is 8 x → post 1) (H0 : ¬ sk_is 8 x → post 0) : wpX_isVariable post x :=
  sk_is_c x (n := 8) (by decide) (fun a b h => br_f a (br_f b (H1 h))) (fun h w => by rcases w with w | ⟨w, v⟩; exact br_t w (H0 h); exact br_f w (br_t v (H0 h)))
theorem sk_xia {post : Int32 → Prop} {x : Int32} (H1 : sk_is 2 x → post 1) (H0 : ¬ sk_is 2 x → post 0) : wpX_isArray post x :=
  sk_is_c x (n := 2) (by decide) (fun a b h => br_f a (br_f b (H1 h))) (fun h w => by rcases w with w | ⟨w, v⟩; exact br_t w (H0 h); exact br_f w (br_t v (H0 h)))
theorem sk_xie {post : Int32 → Prop} {x : Int32} (hM : M ≤ 50) (H1 : sk_is M x → post 1) (H0 : ¬ sk_is M x → post 0) : wpX_isExpression post (nI M, nN, lc, pc, pl, vs, es, lab, ek, ex, px, py, pz, ew, od, sec, rdo, sk, sx, sy, sz, sw, dp, so, sh, la, pa, vl, ps, pt, pr) x :=
  sk_is_c x (n := M) (by omega) (fun a b h => br_f a (br_f b (H1 h))) (fun h w => by rcases w with w | ⟨w, v⟩; exact br_t w (H0 h); exact br_f w (br_t v (H0 h)))
theorem sk_xwp {post : Int32 → Prop} {q : Int32} (hM : M ≤ 50) (hq : sk_pt q M) (hw : ∀ p, p < M → ew p = nI (sk_w ew p)) (H : post (nI (sk_pw ew q))) : wpX_weightOfPart post (nM, nN, lc, pc, pl, vs, es, lab, ek, ex, px, py, pz, ew, od, sec, rdo, sk, sx, sy, sz, sw, dp, so, sh, la, pa, vl, ps, pt, pr) q := by
  by_cases h : q = -1
  · unfold sk_pw at H
    rw [if_pos h] at H
    exact br_t h H
  · unfold sk_pw at H
    rw [if_neg h] at H
    rcases hq with hq | ⟨p, hp, e⟩
    · exact absurd hq h
    · rw [e, nI_clamp (by omega), ← hw p hp] at H
      subst e
      exact br_f h ⟨vp_in_nI (by omega) (by omega), by rw [nI_clamp (by omega)]; exact H⟩
theorem sk_xcl {post : Int32 → SX → Prop} {e p len W : Nat} (he : e < 50) (hp : p < e) (hl : len + W ≤ 30)
    (H : ∀ od' : sk_F, (∀ j, j < 30 * e + len → od' j = od j) → (∀ j, j < W → od' (30 * e + len + j) = od (30 * p + j)) → post (nI (len + W)) (nM, nN, lc, pc, pl, vs, es, lab, ek, ex, px, py, pz, ew, od', sec, rdo, sk, sx, sy, sz, sw, dp, so, sh, la, pa, vl, ps, pt, pr)) :
    ∀ (d i : Nat) (od1 : sk_F), i + d = W → (∀ j, j < 30 * e + len → od1 j = od j) → (∀ j, j < i → od1 (30 * e + len + j) = od (30 * p + j)) → wX_copyOrder_10 post (nI p) (nI e) (nI len) (nI W) nM nN lc pc pl (d + 1) (nI i) vs es lab ek ex px py pz ew od1 sec rdo sk sx sy sz sw dp so sh la pa vl ps pt pr := by
  intro d
  induction d with
  | zero =>
    intro i od1 hi h1 h2
    have : i = W := by omega
    subst this
    exact br_t (nI_le (Nat.le_refl _) (by omega)) (by rw [nI_add]; exact H od1 h1 h2)
  | succ d ih =>
    intro i od1 hi h1 h2
    have e1 : nI p * 30 + nI i = nI (30 * p + i) := sk_30 p i
    have e2 : nI e * 30 + nI len + nI i = nI (30 * e + len + i) := by rw [sk_30, nI_add]
    refine br_f (nI_ge (by omega) (by omega)) ⟨by rw [e1]; exact vp_in_nI (by omega) (by omega), by rw [e2]; exact vp_in_nI (by omega) (by omega), nm_r (e' := upd od1 (30 * e + len + i) (od (30 * p + i))) ?_ (nm_r (nI_1 i) (ih (i + 1) _ (by omega) ?_ ?_))⟩
    · rw [e1, e2, nI_clamp (by omega), nI_clamp (by omega), h1 _ (by omega)]
    · intro j hj
      rw [pk_un (by omega)]
      exact h1 j hj
    · intro j hj
      by_cases hji : j = i
      · subst hji
        exact pk_us
      · rw [pk_un (by omega)]
        exact h2 j (by omega)
/-- copyOrder of a part, or of none -/
theorem sk_xco {post : Int32 → SX → Prop} {e len : Nat} {q : Int32} (he : e < 50) (hq : sk_pt q e) (hw : ∀ p, p < e → ew p = nI (sk_w ew p)) (hl : len + sk_pw ew q ≤ 30)
    (H : ∀ od' : sk_F, (∀ j, j < 30 * e + len → od' j = od j) → (∀ p, p < e → q = nI p → ∀ j, j < sk_w ew p → od' (30 * e + len + j) = od (30 * p + j)) → post (nI (len + sk_pw ew q)) (nM, nN, lc, pc, pl, vs, es, lab, ek, ex, px, py, pz, ew, od', sec, rdo, sk, sx, sy, sz, sw, dp, so, sh, la, pa, vl, ps, pt, pr)) : wpX_copyOrder post (nM, nN, lc, pc, pl, vs, es, lab, ek, ex, px, py, pz, ew, od, sec, rdo, sk, sx, sy, sz, sw, dp, so, sh, la, pa, vl, ps, pt, pr) q (nI e) (nI len) := by
  unfold wpX_copyOrder
  dsimp only
  refine sk_xwp (by omega) hq hw ?_
  by_cases h : q = -1
  · have e0 : sk_pw ew q = 0 := if_pos h
    rw [e0] at H ⊢
    refine ⟨1, br_t (by decide) ?_⟩
    rw [nI_add]
    exact H od (fun _ _ => rfl) (fun p hp e => absurd (e.symm.trans h) (sk_m1 (by omega)))
  · rcases hq with hq | ⟨p, hp, e1⟩
    · exact absurd hq h
    · have e0 : sk_pw ew q = sk_w ew p := by
        unfold sk_pw
        rw [if_neg h, e1, nI_clamp (by omega)]
      rw [e0] at H hl ⊢
      subst e1
      refine ⟨sk_w ew p + 1, sk_xcl he hp hl (fun od' a1 a2 => H od' a1 ?_) (sk_w ew p) 0 od (by omega) (fun _ _ => rfl) (fun j hj => absurd hj (by omega))⟩
      intro p2 hp2 e2 j hj
      have : p = p2 := (nI_eq (by omega) (by omega)).mp e2
      subst this
      exact a2 j hj
theorem sk_xpio {post : SX → Prop} {e : Nat} (he : e < 50) (h1 : sk_pt (px e) e) (h2 : sk_pt (py e) e) (h3 : sk_pt (pz e) e) (hw : ∀ p, p < e → ew p = nI (sk_w ew p)) (hl : sk_pw ew (px e) + sk_pw ew (py e) + sk_pw ew (pz e) ≤ 29)
    (H : ∀ od' : sk_F, (∀ j, j < 30 * e → od' j = od j) → (∀ p, p < e → px e = nI p → ∀ j, j < sk_w ew p → od' (30 * e + 0 + j) = od' (30 * p + j)) → (∀ p, p < e → py e = nI p → ∀ j, j < sk_w ew p → od' (30 * e + sk_pw ew (px e) + j) = od' (30 * p + j)) → (∀ p, p < e → pz e = nI p → ∀ j, j < sk_w ew p → od' (30 * e + (sk_pw ew (px e) + sk_pw ew (py e)) + j) = od' (30 * p + j)) → od' (30 * e + (sk_pw ew (px e) + sk_pw ew (py e) + sk_pw ew (pz e))) = nI e →
      post (nM, nN, lc, pc, pl, vs, es, lab, ek, ex, px, py, pz, upd ew e (nI (sk_pw ew (px e) + sk_pw ew (py e) + sk_pw ew (pz e) + 1)), od', sec, rdo, sk, sx, sy, sz, sw, dp, so, sh, la, pa, vl, ps, pt, pr)) : wpX_putInOrder post (nM, nN, lc, pc, pl, vs, es, lab, ek, ex, px, py, pz, ew, od, sec, rdo, sk, sx, sy, sz, sw, dp, so, sh, la, pa, vl, ps, pt, pr) (nI e) := by
  have i : vp_in (nI e) 50 := vp_in_nI he (by omega)
  have c := nI_clamp (show e < 2 ^ 31 by omega)
  unfold wpX_putInOrder
  rw [c]
  refine ⟨i, sk_xco (len := 0) he h1 hw (by omega) (fun od1 a1 b1 => ⟨i, ?_⟩)⟩
  refine sk_xco he h2 hw (by omega) (fun od2 a2 b2 => ⟨i, ?_⟩)
  refine sk_xco he h3 hw (by omega) (fun od3 a3 b3 => ?_)
  rw [Nat.zero_add] at a2 b2 a3 b3 ⊢
  generalize hA : sk_pw ew (px e) = A at *
  generalize hB : sk_pw ew (py e) = B at *
  generalize hC : sk_pw ew (pz e) = C at *
  have wA : ∀ p, p < e → px e = nI p → sk_w ew p = A := by
    intro p hp e1
    rw [← hA]
    unfold sk_pw
    rw [e1, if_neg (sk_m1 (by omega)), nI_clamp (by omega)]
  have wB : ∀ p, p < e → py e = nI p → sk_w ew p = B := by
    intro p hp e1
    rw [← hB]
    unfold sk_pw
    rw [e1, if_neg (sk_m1 (by omega)), nI_clamp (by omega)]
  have wC : ∀ p, p < e → pz e = nI p → sk_w ew p = C := by
    intro p hp e1
    rw [← hC]
    unfold sk_pw
    rw [e1, if_neg (sk_m1 (by omega)), nI_clamp (by omega)]
  have e3 : nI e * 30 + nI (A + B + C) = nI (30 * e + (A + B + C)) := sk_30 e _
  have w30 : ∀ p, p < e → ∀ j, j < 30 → 30 * p + j < 30 * e := by
    intro p hp j hj
    omega
  refine ⟨by rw [e3]; exact vp_in_nI (by omega) (by omega), nm_r (e' := upd od3 (30 * e + (A + B + C)) (nI e)) (by rw [e3, nI_clamp (by omega)]) ⟨i, nm_r (e' := upd ew e (nI (A + B + C + 1))) (by rw [nI_1]) (H _ ?_ ?_ ?_ ?_ pk_us)⟩⟩
  · intro j hj
    rw [pk_un (by omega), a3 j (by omega), a2 j (by omega), a1 j (by omega)]
  · intro p hp e1 j hj
    have := wA p hp e1
    have := w30 p hp j (by omega)
    rw [pk_un (by omega), pk_un (by omega), a3 _ (by omega), a2 _ (by omega), b1 p hp e1 j hj, a3 _ (by omega), a2 _ (by omega), a1 _ (by omega)]
  · intro p hp e1 j hj
    have := wB p hp e1
    have := w30 p hp j (by omega)
    rw [pk_un (by omega), pk_un (by omega), a3 _ (by omega), b2 p hp e1 j hj, a3 _ (by omega), a2 _ (by omega)]
  · intro p hp e1 j hj
    have := wC p hp e1
    have := w30 p hp j (by omega)
    rw [pk_un (by omega), pk_un (by omega), b3 p hp e1 j hj, a3 _ (by omega)]
/-- express behind its tests -/
theorem sk_x78 {post : Int32 → SX → Prop} {k x q1 q2 q3 : Int32} (hM : M < 50) (h1 : sk_pt q1 M) (h2 : sk_pt q2 M) (h3 : sk_pt q3 M) (hw : ∀ p, p < M → ew p = nI (sk_w ew p)) (hw30 : ∀ p, p < M → sk_w ew p ≤ 30)
    (HF : 30 < (sk_pw ew q1 + sk_pw ew q2 + sk_pw ew q3 + 1) → post (-2) (nI M, nN, lc, pc, pl, vs, es, lab, ek, ex, px, py, pz, ew, od, sec, rdo, sk, sx, sy, sz, sw, dp, so, sh, la, pa, vl, ps, pt, pr))
    (HN : (sk_pw ew q1 + sk_pw ew q2 + sk_pw ew q3 + 1) ≤ 30 → ∀ od' : sk_F, (∀ j, j < 30 * M → od' j = od j) → (∀ p, p < M → q1 = nI p → ∀ j, j < sk_w ew p → od' (30 * M + 0 + j) = od' (30 * p + j)) → (∀ p, p < M → q2 = nI p → ∀ j, j < sk_w ew p → od' (30 * M + sk_pw ew q1 + j) = od' (30 * p + j)) → (∀ p, p < M → q3 = nI p → ∀ j, j < sk_w ew p → od' (30 * M + (sk_pw ew q1 + sk_pw ew q2) + j) = od' (30 * p + j)) → od' (30 * M + (sk_pw ew q1 + sk_pw ew q2 + sk_pw ew q3)) = nI M → sk_node (upd ek M k) (upd ex M x) ey ez (upd ew M (nI (sk_pw ew q1 + sk_pw ew q2 + sk_pw ew q3 + 1))) (upd px M q1) (upd py M q2) (upd pz M q3) od' M)
    (HO : (sk_pw ew q1 + sk_pw ew q2 + sk_pw ew q3 + 1) ≤ 30 → ∀ od' sec' rdo' : sk_F, (∀ j, j < 30 * M → od' j = od j) → (∀ p, p < M → q1 = nI p → ∀ j, j < sk_w ew p → od' (30 * M + 0 + j) = od' (30 * p + j)) → (∀ p, p < M → q2 = nI p → ∀ j, j < sk_w ew p → od' (30 * M + sk_pw ew q1 + j) = od' (30 * p + j)) → (∀ p, p < M → q3 = nI p → ∀ j, j < sk_w ew p → od' (30 * M + (sk_pw ew q1 + sk_pw ew q2) + j) = od' (30 * p + j)) → od' (30 * M + (sk_pw ew q1 + sk_pw ew q2 + sk_pw ew q3)) = nI M → (∀ j, ¬ j = M → sec' j = sec j ∧ rdo' j = rdo j) → sk_se lab (upd ek M k) (upd ex M x) (upd px M q1) (upd py M q2) (upd pz M q3) sec' rdo' M → post (nI M) (nI (M + 1), nN, lc, pc, pl, vs, es, lab, upd ek M k, upd ex M x, upd px M q1, upd py M q2, upd pz M q3, upd ew M (nI (sk_pw ew q1 + sk_pw ew q2 + sk_pw ew q3 + 1)), od', sec', rdo', sk, sx, sy, sz, sw, dp, so, sh, la, pa, vl, ps, pt, pr)) : wX_express_78 post k x q1 q2 q3 (nI M) nN lc pc pl vs es lab ek ex px py pz ew od sec rdo sk sx sy sz sw dp so sh la pa vl ps pt pr := by
  have i : vp_in (nI M) 50 := vp_in_nI hM (by omega)
  have c := nI_clamp (show M < 2 ^ 31 by omega)
  have b30 : ∀ q, sk_pt q M → sk_pw ew q ≤ 30 := by
    intro q hq
    unfold sk_pw
    by_cases h : q = -1
    · rw [if_pos h]; omega
    · rw [if_neg h]
      rcases hq with hq | ⟨p, hp, e⟩
      · exact absurd hq h
      · rw [e, nI_clamp (by omega)]
        exact hw30 p hp
  have b1 := b30 q1 h1
  have b2 := b30 q2 h2
  have b3 := b30 q3 h3
  unfold wX_express_78
  refine sk_xwp (by omega) h1 hw (sk_xwp (by omega) h2 hw (sk_xwp (by omega) h3 hw ?_))
  have es : 1 + nI (sk_pw ew q1) + nI (sk_pw ew q2) + nI (sk_pw ew q3) = nI (sk_pw ew q1 + sk_pw ew q2 + sk_pw ew q3 + 1) := by
    rw [show (1 : Int32) = nI 1 from rfl, nI_add, nI_add, nI_add]
    congr 1
    omega
  rw [es]
  refine pk_le (sk_pw ew q1 + sk_pw ew q2 + sk_pw ew q3 + 1) 30 (fun hle => nm_r (nI_1 M) ?_) HF
  rw [c]
  refine ⟨i, nm_e ⟨i, nm_e ⟨i, nm_e ⟨i, nm_e ⟨i, nm_e ?_⟩⟩⟩⟩⟩
  refine sk_xpio hM (by rw [pk_us]; exact h1) (by rw [pk_us]; exact h2) (by rw [pk_us]; exact h3) hw (by rw [pk_us, pk_us, pk_us]; omega) ?_
  rw [pk_us, pk_us, pk_us]
  intro od' o1 o2 o3 o4 o5
  refine sk_xje hM (HN hle od' o1 o2 o3 o4 o5) (fun sec' rdo' g1 g2 => HO hle od' sec' rdo' o1 o2 o3 o4 o5 g1 g2)
theorem sk_xfit {post : Int32 → Prop} {m : Nat} {x y z : Int32} (hM : M ≤ 50) (hm : m ≤ 14) (H1 : sk_fit M m x y z → post 1) (H0 : ¬ sk_fit M m x y z → post 0) : wpX_expressionFits post (nI M, nN, lc, pc, pl, vs, es, lab, ek, ex, px, py, pz, ew, od, sec, rdo, sk, sx, sy, sz, sw, dp, so, sh, la, pa, vl, ps, pt, pr) (nI m) x y z := by
  by_cases hb : 3 ≤ m ∧ m ≤ 12
  · rw [sk_fit_b hb.1 hb.2] at H1 H0
    have z : ∀ j : Nat, j < 20 → j ≠ m → ¬ nI m = nI j := fun j hj hn he => hn ((nI_eq (by omega) (by omega)).mp he).symm
    have V : wX_expressionFits_141 post x y (nI M) nN lc pc pl vs es lab ek ex px py pz ew od sec rdo sk sx sy sz sw dp so sh la pa vl ps pt pr := by
      unfold wX_expressionFits_141
      exact sk_xie hM (fun a => br_f (by decide) (sk_xie hM (fun b => br_f (by decide) (H1 ⟨a, b⟩)) (fun b => br_t rfl (H0 (fun w => b w.2))))) (fun a => br_t rfl (H0 (fun w => a w.1)))
    exact br_f (nI_pos (by omega)) (br_f (nI_nlt (a := 14) (by omega) (by decide)) (br_f (z 0 (by omega) (by omega)) (br_f (z 1 (by omega) (by omega)) (br_f (z 2 (by omega) (by omega)) (br_c (fun _ => V) (fun _ => br_c (fun _ => V) (fun _ => br_c (fun _ => V) (fun _ => br_c (fun _ => V) (fun _ => br_c (fun _ => V) (fun _ => br_c (fun _ => V) (fun _ => br_c (fun _ => V) (fun _ => br_c (fun _ => V) (fun _ => br_c (fun _ => V) (fun _ => br_c (fun _ => V) (fun _ => br_f (z 13 (by omega) (by omega)) (br_f (z 14 (by omega) (by omega)) trivial))))))))))))))))
  · have hm2 : m = 0 ∨ m = 1 ∨ m = 2 ∨ m = 13 ∨ m = 14 := by omega
    rcases hm2 with rfl | rfl | rfl | rfl | rfl
    · exact br_f (by decide) (br_f (by decide) (br_t rfl (H1 trivial)))
    · exact br_f (by decide) (br_f (by decide) (br_f (by decide) (br_t rfl (sk_xiv (fun a => ⟨rfl, H1 a⟩) (fun a => ⟨rfl, H0 a⟩)))))
    · exact br_f (by decide) (br_f (by decide) (br_f (by decide) (br_f (by decide) (br_t rfl (sk_xia (fun a => br_f (by decide) (sk_xie hM (fun b => br_f (by decide) (H1 ⟨a, b⟩)) (fun b => br_t rfl (H0 (fun w => b w.2))))) (fun a => br_t rfl (H0 (fun w => a w.1))))))))
    · exact br_f (by decide) (br_f (by decide) (br_f (by decide) (br_f (by decide) (br_f (by decide) (br_f (by decide) (br_f (by decide) (br_f (by decide) (br_f (by decide) (br_f (by decide) (br_f (by decide) (br_f (by decide) (br_f (by decide) (br_f (by decide) (br_f (by decide) (br_t rfl (sk_xie hM (fun a => ⟨rfl, H1 a⟩) (fun a => ⟨rfl, H0 a⟩)))))))))))))))))
    · exact br_f (by decide) (br_f (by decide) (br_f (by decide) (br_f (by decide) (br_f (by decide) (br_f (by decide) (br_f (by decide) (br_f (by decide) (br_f (by decide) (br_f (by decide) (br_f (by decide) (br_f (by decide) (br_f (by decide) (br_f (by decide) (br_f (by decide) (br_f (by decide) (br_t rfl (sk_xie hM (fun a => br_f (by decide) (sk_xie hM (fun b => br_f (by decide) (sk_xie hM (fun d => br_f (by decide) (H1 ⟨a, b, d⟩)) (fun d => br_t rfl (H0 (fun w => d w.2.2))))) (fun b => br_t rfl (H0 (fun w => b w.2.1))))) (fun a => br_t rfl (H0 (fun w => a w.1))))))))))))))))))))
/-- X's express, up to the making -/
theorem sk_xexp {post : Int32 → SX → Prop} {m : Nat} {x y z : Int32} (hM : M < 50) (hm : m ≤ 14) (H0 : ¬ sk_fit M m x y z → post (-1) (nI M, nN, lc, pc, pl, vs, es, lab, ek, ex, px, py, pz, ew, od, sec, rdo, sk, sx, sy, sz, sw, dp, so, sh, la, pa, vl, ps, pt, pr)) (H1 : sk_fit M m x y z → wX_express_78 post (nI m) x (sk_q1 m x) (sk_q2 m y) (sk_q3 m z) (nI M) nN lc pc pl vs es lab ek ex px py pz ew od sec rdo sk sx sy sz sw dp so sh la pa vl ps pt pr) : wpX_express post (nI M, nN, lc, pc, pl, vs, es, lab, ek, ex, px, py, pz, ew, od, sec, rdo, sk, sx, sy, sz, sw, dp, so, sh, la, pa, vl, ps, pt, pr) (nI m) x y z := by
  refine br_t (nI_lt (b := 50) hM (by decide)) (br_f (nI_pos (by omega)) (br_f (nI_nlt (a := 14) hm (by decide)) ?_))
  refine sk_xfit (by omega) hm (fun a => br_f (by decide) ?_) (fun a => br_t rfl (H0 a))
  have G := H1 a
  have G64 : ∀ q, wX_express_78 post (nI m) x q (sk_q2 m y) (sk_q3 m z) (nI M) nN lc pc pl vs es lab ek ex px py pz ew od sec rdo sk sx sy sz sw dp so sh la pa vl ps pt pr → wX_express_64 post (nI m) x z q (sk_q2 m y) (nI M) nN lc pc pl vs es lab ek ex px py pz ew od sec rdo sk sx sy sz sw dp so sh la pa vl ps pt pr := by
    intro q g
    unfold sk_q3 at g
    by_cases h14 : m = 14
    · rw [if_pos h14] at g
      subst h14
      exact br_t rfl g
    · rw [if_neg h14] at g
      exact br_f (fun w => h14 ((nI_eq (by omega) (by omega)).mp w)) g
  have G46 : ∀ q, wX_express_78 post (nI m) x q (sk_q2 m y) (sk_q3 m z) (nI M) nN lc pc pl vs es lab ek ex px py pz ew od sec rdo sk sx sy sz sw dp so sh la pa vl ps pt pr → wX_express_46 post (nI m) x y z q (nI M) nN lc pc pl vs es lab ek ex px py pz ew od sec rdo sk sx sy sz sw dp so sh la pa vl ps pt pr := by
    intro q g
    have g2 := G64 q g
    unfold sk_q2 at g2
    by_cases h2 : m < 2
    · rw [if_neg (by omega)] at g2
      exact br_t (nI_lt (b := 2) h2 (by decide)) g2
    · by_cases h13 : m = 13
      · rw [if_neg (by omega)] at g2
        exact br_f (nI_nlt (b := 2) (by omega) (by omega)) (br_t (by rw [h13]; rfl) g2)
      · rw [if_pos (by omega)] at g2
        exact br_f (nI_nlt (b := 2) (by omega) (by omega)) (br_f (fun w => h13 ((nI_eq (b := 13) (by omega) (by omega)).mp w)) g2)
  by_cases h3 : 3 ≤ m
  · unfold sk_q1 at G
    rw [if_pos h3] at G
    exact br_f (nI_nlt (b := 3) h3 (by omega)) (G46 x G)
  · unfold sk_q1 at G
    rw [if_neg h3] at G
    exact br_t (nI_lt (b := 3) (by omega) (by decide)) (G46 (-1) G)
end
section
variable {nN lc pc de tp hg : Int32} {M N : Nat} {vs es lab ek ex ey ez ew hid wld sk sx sy sz sw dp oS hS la pa wk aw fd dg st rl ch : sk_F}
theorem sk_yie {post : Int32 → Prop} {x : Int32} (hM : M ≤ 50) (H1 : sk_is M x → post 1) (H0 : ¬ sk_is M x → post 0) : wpY_isExpression post (nI M, nN, lc, pc, de, tp, hg, ek, ex, ey, ez, ew, hid, wld, sk, sx, sy, sz, sw, dp, oS, hS, lab, vs, es, la, pa, wk, aw, fd, dg, st, rl, ch) x :=
  sk_is_c x (n := M) (by omega) (fun a b h => br_f a (br_f b (H1 h))) (fun h w => by rcases w with w | ⟨w, v⟩; exact br_t w (H0 h); exact br_f w (br_t v (H0 h)))
theorem sk_yin {post : Int32 → Prop} {x p2 : Int32} {n : Nat} {nM : Int32} (hn : n < 100) (e2 : p2 = nI n) (H1 : sk_is (n + 1) x → post 1) (H0 : ¬ sk_is (n + 1) x → post 0) : wpY_in post (nM, nN, lc, pc, de, tp, hg, ek, ex, ey, ez, ew, hid, wld, sk, sx, sy, sz, sw, dp, oS, hS, lab, vs, es, la, pa, wk, aw, fd, dg, st, rl, ch) x 0 p2 := by
  subst e2
  have q : ∀ h : ¬ x < 0, (nI n < x ↔ nI (n + 1) ≤ x) := by
    intro h
    obtain ⟨j, hj, e⟩ := nI_of h
    rw [e, nI_ltI (by omega) hj, nI_leI (by omega) hj]
    omega
  exact sk_is_c x (n := n + 1) (by omega) (fun a b h => br_f a (br_f (fun w => b ((q a).mp w)) (H1 h))) (fun h w => by rcases w with w | ⟨w, v⟩; exact br_t w (H0 h); exact br_f w (br_t ((q w).mpr v) (H0 h)))
/-- Y's express behind its tests -/
theorem sk_y105 {post : Int32 → SY → Prop} {m : Nat} {x y z : Int32} (hM : M < 50) (hm : m ≤ 14) (hfit : sk_fit M m x y z) (hw : ∀ p, p < M → ew p = nI (sk_w ew p)) (hw30 : ∀ p, p < M → sk_w ew p ≤ 30)
    (HF : 30 < (sk_pw ew (sk_q1 m x) + sk_pw ew (sk_q2 m y) + sk_pw ew (sk_q3 m z) + 1) → post (-2) (nI M, nN, lc, pc, de, tp, hg, ek, ex, ey, ez, ew, hid, wld, sk, sx, sy, sz, sw, dp, oS, hS, lab, vs, es, la, pa, wk, aw, fd, dg, st, rl, ch)) (HO : (sk_pw ew (sk_q1 m x) + sk_pw ew (sk_q2 m y) + sk_pw ew (sk_q3 m z) + 1) ≤ 30 → post (nI M) (nI (M + 1), nN, lc, pc, de, tp, hg, upd ek M (nI m), upd ex M x, upd ey M y, upd ez M z, upd ew M (nI (sk_pw ew (sk_q1 m x) + sk_pw ew (sk_q2 m y) + sk_pw ew (sk_q3 m z) + 1)), hid, wld, sk, sx, sy, sz, sw, dp, oS, hS, lab, vs, es, la, pa, wk, aw, fd, dg, st, rl, ch)) : wY_express_105 post (nI m) x y z (nI M) nN lc pc de tp hg ek ex ey ez ew hid wld sk sx sy sz sw dp oS hS lab vs es la pa wk aw fd dg st rl ch := by
  have i : vp_in (nI M) 50 := vp_in_nI hM (by omega)
  have c := nI_clamp (show M < 2 ^ 31 by omega)
  obtain ⟨f1, f2, f3⟩ := sk_fit_fl hm hfit
  have P1 : ∀ {cc : Prop} {a q : Int32}, sk_fl cc a q M → cc → vp_in a 50 ∧ ew a.toNatClampNeg = nI (sk_pw ew q) ∧ sk_pw ew q ≤ 30 := by
    intro cc a q h hc
    obtain ⟨p, hp, e1, e2⟩ := h.1 hc
    unfold sk_pw
    rw [e1, e2, if_neg (sk_m1 (by omega)), nI_clamp (by omega)]
    exact ⟨vp_in_nI (by omega) (by omega), hw p hp, hw30 p hp⟩
  have P0 : ∀ {cc : Prop} {a q : Int32}, sk_fl cc a q M → ¬ cc → sk_pw ew q = 0 := by
    intro cc a q h hc
    exact if_pos (h.2 hc)
  have B : ∀ {cc : Prop} {a q : Int32}, sk_fl cc a q M → sk_pw ew q ≤ 30 := by
    intro cc a q h
    by_cases hc : cc
    · exact (P1 h hc).2.2
    · rw [P0 h hc]; omega
  have b1 := B f1
  have b2 := B f2
  have b3 := B f3
  have H161 : ∀ z0 z1 : Int32, z1 + z0 = nI (sk_pw ew (sk_q1 m x) + sk_pw ew (sk_q2 m y) + sk_pw ew (sk_q3 m z) + 1) → wY_express_161 post (nI m) x y z z0 z1 (nI M) nN lc pc de tp hg ek ex ey ez ew hid wld sk sx sy sz sw dp oS hS lab vs es la pa wk aw fd dg st rl ch := by
    intro z0 z1 ez
    unfold wY_express_161
    rw [c]
    exact nm_r ez (pk_le (sk_pw ew (sk_q1 m x) + sk_pw ew (sk_q2 m y) + sk_pw ew (sk_q3 m z) + 1) 30 (fun h => ⟨i, nm_e ⟨i, nm_e ⟨i, nm_e ⟨i, nm_e ⟨i, nm_e (nm_r (nI_1 M) (by rw [nI_pred]; exact HO h))⟩⟩⟩⟩⟩) HF)
  have H143 : ∀ z0 z1 : Int32, z1 + z0 = nI (sk_pw ew (sk_q1 m x) + sk_pw ew (sk_q2 m y) + 1) → wY_express_143 post (nI m) x y z z0 z1 (nI M) nN lc pc de tp hg ek ex ey ez ew hid wld sk sx sy sz sw dp oS hS lab vs es la pa wk aw fd dg st rl ch := by
    intro z0 z1 ez
    unfold wY_express_143
    rw [ez]
    by_cases h14 : m = 14
    · obtain ⟨g1, g2, _⟩ := P1 f3 h14
      refine br_t (by rw [h14]; rfl) ⟨g1, H161 _ _ ?_⟩
      rw [g2, nI_add]
      congr 1
      omega
    · refine br_f (fun w => h14 ((nI_eq (b := 14) (by omega) (by omega)).mp w)) (H161 _ _ ?_)
      rw [show (0 : Int32) = nI 0 from rfl, nI_add, P0 f3 h14]
  have hY : (nI m = 2 ∨ (¬ nI m < 3 ∧ ¬ nI m = 13)) ↔ (m = 2 ∨ (3 ≤ m ∧ ¬ m = 13)) := by
    rw [show (2 : Int32) = nI 2 from rfl, show (3 : Int32) = nI 3 from rfl, show (13 : Int32) = nI 13 from rfl, nI_eq (by omega) (by omega), nI_eq (by omega) (by omega), nI_ltI (by omega) (by omega)]
    omega
  have H124 : ∀ z0 z1 : Int32, z1 + z0 = nI (sk_pw ew (sk_q1 m x) + 1) → wY_express_124 post (nI m) x y z z0 z1 (nI M) nN lc pc de tp hg ek ex ey ez ew hid wld sk sx sy sz sw dp oS hS lab vs es la pa wk aw fd dg st rl ch := by
    intro z0 z1 ez
    unfold wY_express_124
    rw [ez]
    refine sk_yhy (fun h => br_f (by decide) ?_) (fun h => br_t rfl ?_)
    · obtain ⟨g1, g2, _⟩ := P1 f2 (hY.mp h)
      refine ⟨g1, H143 _ _ ?_⟩
      rw [g2, nI_add]
      congr 1
      omega
    · refine H143 _ _ ?_
      rw [show (0 : Int32) = nI 0 from rfl, nI_add, P0 f2 (fun w => h (hY.mpr w))]
  unfold wY_express_105
  by_cases h3 : 3 ≤ m
  · obtain ⟨g1, g2, _⟩ := P1 f1 h3
    refine br_f (nI_nlt (b := 3) h3 (by omega)) (br_f (by decide) ⟨g1, H124 _ _ ?_⟩)
    rw [g2, show (1 : Int32) = nI 1 from rfl, nI_add, Nat.add_comm]
  · refine br_t (nI_lt (b := 3) (by omega) (by decide)) (br_t rfl (H124 _ _ ?_))
    rw [P0 f1 h3]
    rfl
/-- Y's express -/
theorem sk_yexp {post : Int32 → SY → Prop} {m : Nat} {x y z : Int32} (hM : M < 50) (hm : m ≤ 14) (H0 : ¬ sk_fit M m x y z → post (-1) (nI M, nN, lc, pc, de, tp, hg, ek, ex, ey, ez, ew, hid, wld, sk, sx, sy, sz, sw, dp, oS, hS, lab, vs, es, la, pa, wk, aw, fd, dg, st, rl, ch)) (H1 : sk_fit M m x y z → wY_express_105 post (nI m) x y z (nI M) nN lc pc de tp hg ek ex ey ez ew hid wld sk sx sy sz sw dp oS hS lab vs es la pa wk aw fd dg st rl ch) : wpY_express post (nI M, nN, lc, pc, de, tp, hg, ek, ex, ey, ez, ew, hid, wld, sk, sx, sy, sz, sw, dp, oS, hS, lab, vs, es, la, pa, wk, aw, fd, dg, st, rl, ch) (nI m) x y z := by
  have zz : ∀ j : Nat, j < 20 → j ≠ m → ¬ nI m = nI j := fun j hj hn he => hn ((nI_eq (by omega) (by omega)).mp he).symm
  have hM2 : M ≤ 50 := by omega
  refine br_f (fun w => absurd ((nI_eq (b := 50) (by omega) (by omega)).mp w) (by omega)) ?_
  unfold wY_express_39 wY_express_56 wY_express_72 wY_express_88
  refine sk_yin (n := 14) (by omega) rfl (fun _ => br_f (by decide) ?_) (fun w => absurd ⟨m, by omega, rfl⟩ w)
  by_cases hb : 3 ≤ m ∧ m ≤ 12
  · rw [sk_fit_b hb.1 hb.2] at H1 H0
    exact br_f (zz 1 (by omega) (by omega)) (br_f (zz 2 (by omega) (by omega)) (br_f (nI_nlt (b := 3) hb.1 (by omega)) (br_f (by decide) (sk_yie hM2 (fun a => br_f (by decide) (sk_yhy (fun _ => br_f (by decide) (sk_yie hM2 (fun b => br_f (by decide) (br_f (zz 14 (by omega) (by omega)) (H1 ⟨a, b⟩))) (fun b => br_t rfl (H0 (fun w => b w.2))))) (fun w => absurd (Or.inr ⟨nI_nlt (b := 3) hb.1 (by omega), zz 13 (by omega) (by omega)⟩) w))) (fun a => br_t rfl (H0 (fun w => a w.1)))))))
  · have hm2 : m = 0 ∨ m = 1 ∨ m = 2 ∨ m = 13 ∨ m = 14 := by omega
    rcases hm2 with rfl | rfl | rfl | rfl | rfl
    · exact br_f (by decide) (br_f (by decide) (br_t (by decide) (br_t rfl (sk_yhy (fun w => absurd w (by decide)) (fun _ => br_t rfl (br_f (by decide) (H1 trivial)))))))
    · exact br_t rfl (sk_yin (n := 7) (by omega) rfl (fun a => br_f (by decide) (br_f (by decide) (br_t (by decide) (br_t rfl (sk_yhy (fun w => absurd w (by decide)) (fun _ => br_t rfl (br_f (by decide) (H1 a)))))))) (fun a => br_t rfl (H0 a)))
    · exact br_f (by decide) (br_t rfl (sk_yin (n := 1) (by omega) rfl (fun a => br_f (by decide) (br_t (by decide) (br_t rfl (sk_yhy (fun _ => br_f (by decide) (sk_yie hM2 (fun b => br_f (by decide) (br_f (by decide) (H1 ⟨a, b⟩))) (fun b => br_t rfl (H0 (fun w => b w.2))))) (fun w => absurd (by decide) w))))) (fun a => br_t rfl (H0 (fun w => a w.1)))))
    · exact br_f (by decide) (br_f (by decide) (br_f (by decide) (br_f (by decide) (sk_yie hM2 (fun a => br_f (by decide) (sk_yhy (fun w => absurd w (by decide)) (fun _ => br_t rfl (br_f (by decide) (H1 a))))) (fun a => br_t rfl (H0 a))))))
    · exact br_f (by decide) (br_f (by decide) (br_f (by decide) (br_f (by decide) (sk_yie hM2 (fun a => br_f (by decide) (sk_yhy (fun _ => br_f (by decide) (sk_yie hM2 (fun b => br_f (by decide) (br_t rfl (sk_yie hM2 (fun d => br_f (by decide) (H1 ⟨a, b, d⟩)) (fun d => br_t rfl (H0 (fun w => d w.2.2)))))) (fun b => br_t rfl (H0 (fun w => b w.2.1))))) (fun w => absurd (by decide) w))) (fun a => br_t rfl (H0 (fun w => a w.1)))))))
end
