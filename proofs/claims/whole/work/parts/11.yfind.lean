/-! 11: Y finds what is secret and what is safe -/
section
variable {nM nN lc pc de tp hg : Int32} {M N : Nat} {vs es lab ek ex ey ez px py pz ew od hid wld sec rdo sk sx sy sz sw dp oS hS so sh la pa wk aw fd dg st rl ch : sk_F}
def sk_fl (c : Prop) (x q : Int32) (e : Nat) : Prop := (c → ∃ p, p < e ∧ x = nI p ∧ q = nI p) ∧ (¬ c → q = -1)
theorem sk_node_w {e : Nat} (h : sk_node ek ex ey ez ew px py pz od e) : sk_fl (¬ ek e < 3) (ex e) (px e) e ∧ sk_fl (ek e = 2 ∨ (¬ ek e < 3 ∧ ¬ ek e = 13)) (ey e) (py e) e ∧ sk_fl (ek e = 14) (ez e) (pz e) e := by
  rcases h.2 with ⟨k, _, a, b, c⟩ | ⟨k, _, a, b, c, _⟩ | ⟨k, a, c, _, p, _, hp, _, x2, b, _⟩ | ⟨k, b, c, p, hp, x1, a, _⟩ | ⟨k, p, q, r, hp, hq, hr, x1, x2, x3, a, b, c, _⟩ | ⟨k, c, p, q, hp, hq, x1, x2, a, b, _⟩
  · unfold sk_fl
    rw [k]
    exact ⟨⟨fun z => absurd (by decide) z, fun _ => a⟩, ⟨fun z => absurd z (by decide), fun _ => b⟩, ⟨fun z => absurd z (by decide), fun _ => c⟩⟩
  · unfold sk_fl
    rw [k]
    exact ⟨⟨fun z => absurd (by decide) z, fun _ => a⟩, ⟨fun z => absurd z (by decide), fun _ => b⟩, ⟨fun z => absurd z (by decide), fun _ => c⟩⟩
  · unfold sk_fl
    rw [k]
    exact ⟨⟨fun z => absurd (by decide) z, fun _ => a⟩, ⟨fun _ => ⟨p, hp, x2, b⟩, fun z => absurd (Or.inl rfl) z⟩, ⟨fun z => absurd z (by decide), fun _ => c⟩⟩
  · unfold sk_fl
    rw [k]
    exact ⟨⟨fun _ => ⟨p, hp, x1, a⟩, fun z => absurd (by decide) z⟩, ⟨fun z => absurd z (by decide), fun _ => b⟩, ⟨fun z => absurd z (by decide), fun _ => c⟩⟩
  · unfold sk_fl
    rw [k]
    exact ⟨⟨fun _ => ⟨p, hp, x1, a⟩, fun z => absurd (by decide) z⟩, ⟨fun _ => ⟨q, hq, x2, b⟩, fun z => absurd (by decide) z⟩, ⟨fun _ => ⟨r, hr, x3, c⟩, fun z => absurd rfl z⟩⟩
  · obtain ⟨_, _, n2, n13, n14⟩ := sk_bin_ne k
    have g3 : ¬ ek e < 3 := Int32.not_lt.mpr (sk_bin_ge k)
    exact ⟨⟨fun _ => ⟨p, hp, x1, a⟩, fun z => absurd g3 z⟩, ⟨fun _ => ⟨q, hq, x2, b⟩, fun z => absurd (Or.inr ⟨g3, n13⟩) z⟩, ⟨fun z => absurd z n14, fun _ => c⟩⟩
theorem sk_fl_h {c : Prop} {x q : Int32} {e : Nat} (h : sk_fl c x q e) (he : e ≤ 50) (ih : ∀ j, j < e → (hid j = 0 ↔ sec j = 0)) : (c → vp_in x 50 ∧ (hid x.toNatClampNeg = 0 ↔ ¬ sk_ps sec q)) ∧ (¬ c → ¬ sk_ps sec q) := by
  refine ⟨fun hc => ?_, fun hc z => z.1 (h.2 hc)⟩
  obtain ⟨p, hp, e1, e2⟩ := h.1 hc
  unfold sk_ps
  rw [e1, e2, nI_clamp (by omega), ih p hp]
  refine ⟨vp_in_nI (by omega) (by omega), fun z w => w.2 z, fun z => ?_⟩
  by_cases w : sec p = 0
  · exact w
  · exact absurd ⟨sk_m1 (by omega), w⟩ z
theorem sk_fl_w {c : Prop} {x q : Int32} {e : Nat} (h : sk_fl c x q e) (he : e ≤ 50) (ih : ∀ j, j < e → (wld j = 0 ↔ ¬ rdo j = 0)) : (c → vp_in x 50 ∧ (wld x.toNatClampNeg = 0 ↔ sk_pr rdo q)) ∧ (¬ c → sk_pr rdo q) := by
  refine ⟨fun hc => ?_, fun hc => Or.inl (h.2 hc)⟩
  obtain ⟨p, hp, e1, e2⟩ := h.1 hc
  unfold sk_pr
  rw [e1, e2, nI_clamp (by omega), ih p hp]
  exact ⟨vp_in_nI (by omega) (by omega), fun z => Or.inr z, fun z => z.elim (fun z => absurd z (sk_m1 (by omega))) id⟩
theorem sk_yhy {post : Int32 → Prop} {k : Int32} (H1 : (k = 2 ∨ (¬ k < 3 ∧ ¬ k = 13)) → post 1) (H0 : ¬ (k = 2 ∨ (¬ k < 3 ∧ ¬ k = 13)) → post 0) : wpY_hasY post (nM, nN, lc, pc, de, tp, hg, ek, ex, ey, ez, ew, hid, wld, sk, sx, sy, sz, sw, dp, oS, hS, lab, vs, es, la, pa, wk, aw, fd, dg, st, rl, ch) k :=
  br_c (fun z => H1 (Or.inl z)) (fun z => br_c (fun w => H0 (fun q => q.elim z (fun q => q.1 w))) (fun w => br_c (fun v => H0 (fun q => q.elim z (fun q => q.2 v))) (fun v => H1 (Or.inr ⟨w, v⟩))))
theorem sk_yf166 {post : SY → Prop} {J : Int32 → sk_F → sk_F → sk_F → sk_F → sk_F → sk_F → sk_F → sk_F → sk_F → sk_F → sk_F → sk_F → sk_F → sk_F → sk_F → sk_F → sk_F → sk_F → sk_F → sk_F → sk_F → sk_F → sk_F → sk_F → sk_F → sk_F → sk_F → Prop} {e : Nat} {x4 z z' : Int32} (he : e < 50) (hw : sk_node ek ex ey ez ew px py pz od e) (ih : ∀ j, j < e → (wld j = 0 ↔ ¬ rdo j = 0)) (hr : ¬ rdo e = 0 ↔ ((ek e = 2 → ¬ sk_ps sec (py e)) ∧ sk_pr rdo (px e) ∧ sk_pr rdo (py e) ∧ sk_pr rdo (pz e)))
    (hx4 : x4 = 0 ↔ ¬ sk_ps sec (py e)) (hz : vp_nar .boolean z = z') (hz0 : z' = 0 ↔ sec e = 0) (HJ : ∀ f1 f2 : Int32, (f1 = 0 ↔ sec e = 0) → (f2 = 0 ↔ ¬ rdo e = 0) → J (nI (e + 1)) ek ex ey ez ew ((upd hid e f1)) ((upd wld e f2)) sk sx sy sz sw dp oS hS lab vs es la pa wk aw fd dg st rl ch) : wY_findSecrets_166 post J (nI e) (ek e) x4 z (nI e) nM nN lc pc de tp hg ek ex ey ez ew hid wld sk sx sy sz sw dp oS hS lab vs es la pa wk aw fd dg st rl ch := by
  have i : vp_in (nI e) 50 := vp_in_nI he (by omega)
  have c := nI_clamp (show e < 2 ^ 31 by omega)
  obtain ⟨fx, fy, fz⟩ := sk_node_w hw
  obtain ⟨wx1, wx0⟩ := sk_fl_w fx (by omega) ih
  obtain ⟨wy1, wy0⟩ := sk_fl_w fy (by omega) ih
  obtain ⟨wz1, wz0⟩ := sk_fl_w fz (by omega) ih
  have D1 : ¬ ((ek e = 2 → ¬ sk_ps sec (py e)) ∧ sk_pr rdo (px e) ∧ sk_pr rdo (py e) ∧ sk_pr rdo (pz e)) → J (nI (e + 1)) ek ex ey ez ew ((upd hid e z')) ((upd wld e (vp_nar .boolean 1))) sk sx sy sz sw dp oS hS lab vs es la pa wk aw fd dg st rl ch := fun q => HJ _ _ hz0 ⟨fun w => absurd w (by rw [sk_n1]; decide), fun w => absurd (hr.mp w) q⟩
  have D0 : ((ek e = 2 → ¬ sk_ps sec (py e)) ∧ sk_pr rdo (px e) ∧ sk_pr rdo (py e) ∧ sk_pr rdo (pz e)) → J (nI (e + 1)) ek ex ey ez ew ((upd hid e z')) ((upd wld e (vp_nar .boolean 0))) sk sx sy sz sw dp oS hS lab vs es la pa wk aw fd dg st rl ch := fun q => HJ _ _ hz0 ⟨fun _ => hr.mpr q, fun _ => sk_n0⟩
  have H236 : sk_pr rdo (px e) → sk_pr rdo (py e) → sk_pr rdo (pz e) → wY_findSecrets_236 post J (nI e) (ek e) x4 (nI e) nM nN lc pc de tp hg ek ex ey ez ew (upd hid e z') wld sk sx sy sz sw dp oS hS lab vs es la pa wk aw fd dg st rl ch := by
    intro q1 q2 q3
    unfold wY_findSecrets_236
    rw [c]
    exact br_c (fun k => br_c (fun w => ⟨i, nm_e (nm_r (nI_1 e) (D0 ⟨fun _ => hx4.mp w, q1, q2, q3⟩))⟩) (fun w => ⟨i, nm_e (nm_r (nI_1 e) (D1 (fun v => w (hx4.mpr (v.1 k)))))⟩)) (fun k => ⟨i, nm_e (nm_r (nI_1 e) (D0 ⟨fun k2 => absurd k2 k, q1, q2, q3⟩))⟩)
  have H216 : sk_pr rdo (px e) → sk_pr rdo (py e) → wY_findSecrets_216 post J (nI e) (ek e) x4 (nI e) nM nN lc pc de tp hg ek ex ey ez ew (upd hid e z') wld sk sx sy sz sw dp oS hS lab vs es la pa wk aw fd dg st rl ch := by
    intro q1 q2
    unfold wY_findSecrets_216
    rw [c]
    exact br_c (fun k => ⟨i, (wz1 k).1, br_c (fun w => H236 q1 q2 ((wz1 k).2.mp w)) (fun w => ⟨i, nm_e (nm_r (nI_1 e) (D1 (fun v => w ((wz1 k).2.mpr v.2.2.2))))⟩)⟩) (fun k => H236 q1 q2 (wz0 k))
  have H194 : sk_pr rdo (px e) → wY_findSecrets_194 post J (nI e) (ek e) x4 (nI e) nM nN lc pc de tp hg ek ex ey ez ew (upd hid e z') wld sk sx sy sz sw dp oS hS lab vs es la pa wk aw fd dg st rl ch := by
    intro q1
    unfold wY_findSecrets_194
    rw [c]
    exact sk_yhy (fun k => br_f (by decide) ⟨i, (wy1 k).1, br_c (fun w => H216 q1 ((wy1 k).2.mp w)) (fun w => ⟨i, nm_e (nm_r (nI_1 e) (D1 (fun v => w ((wy1 k).2.mpr v.2.2.1))))⟩)⟩) (fun k => br_t rfl (H216 q1 (wy0 k)))
  unfold wY_findSecrets_166
  rw [c]
  exact ⟨i, nm_r (e' := upd hid e z') (by rw [hz]) (br_c (fun k => br_t rfl (H194 (wx0 (fun z => z k)))) (fun k => br_f (by decide) ⟨i, (wx1 k).1, br_c (fun w => H194 ((wx1 k).2.mp w)) (fun w => ⟨i, nm_e (nm_r (nI_1 e) (D1 (fun v => w ((wx1 k).2.mpr v.2.1))))⟩)⟩))⟩
/-- one turn of findSecrets -/
theorem sk_yfs1 {post : SY → Prop} {n e : Nat} (he : e < M) (hM : M ≤ 50) (hw : sk_node ek ex ey ez ew px py pz od e) (hse : sk_se lab ek ex px py pz sec rdo e) (ih1 : ∀ j, j < e → (hid j = 0 ↔ sec j = 0)) (ih2 : ∀ j, j < e → (wld j = 0 ↔ ¬ rdo j = 0))
    (HJ : ∀ f1 f2 : Int32, (f1 = 0 ↔ sec e = 0) → (f2 = 0 ↔ ¬ rdo e = 0) → wY_findSecrets_2 post (nI M) nN lc pc de tp hg n (nI (e + 1)) ek ex ey ez ew ((upd hid e f1)) ((upd wld e f2)) sk sx sy sz sw dp oS hS lab vs es la pa wk aw fd dg st rl ch) : wY_findSecrets_2 post (nI M) nN lc pc de tp hg (n + 1) (nI e) ek ex ey ez ew hid wld sk sx sy sz sw dp oS hS lab vs es la pa wk aw fd dg st rl ch := by
  have i : vp_in (nI e) 50 := vp_in_nI (by omega) (by omega)
  have c := nI_clamp (show e < 2 ^ 31 by omega)
  obtain ⟨fx, fy, fz⟩ := sk_node_w hw
  obtain ⟨sx1, sx0⟩ := sk_fl_h fx (by omega) ih1
  obtain ⟨sy1, sy0⟩ := sk_fl_h fy (by omega) ih1
  obtain ⟨sz1, sz0⟩ := sk_fl_h fz (by omega) ih1
  have K1 : ((ek e = 1 ∧ ¬ lab (ex e).toNatClampNeg = 0) ∨ (ek e = 2 ∧ ¬ lab (8 + ex e).toNatClampNeg = 0) ∨ sk_ps sec (px e) ∨ sk_ps sec (py e) ∨ sk_ps sec (pz e)) → ∀ x4 : Int32, (x4 = 0 ↔ ¬ sk_ps sec (py e)) → wY_findSecrets_166 post (wY_findSecrets_2 post (nI M) nN lc pc de tp hg n) (nI e) (ek e) x4 1 (nI e) (nI M) nN lc pc de tp hg ek ex ey ez ew hid wld sk sx sy sz sw dp oS hS lab vs es la pa wk aw fd dg st rl ch :=
    fun q x4 hx4 => sk_yf166 (by omega) hw ih2 hse.2 hx4 sk_n1 ⟨fun w => absurd w (by decide), fun w => absurd w (hse.1.mpr q)⟩ HJ
  have K0 : ¬ ((ek e = 1 ∧ ¬ lab (ex e).toNatClampNeg = 0) ∨ (ek e = 2 ∧ ¬ lab (8 + ex e).toNatClampNeg = 0) ∨ sk_ps sec (px e) ∨ sk_ps sec (py e) ∨ sk_ps sec (pz e)) → ∀ x4 : Int32, (x4 = 0 ↔ ¬ sk_ps sec (py e)) → wY_findSecrets_166 post (wY_findSecrets_2 post (nI M) nN lc pc de tp hg n) (nI e) (ek e) x4 0 (nI e) (nI M) nN lc pc de tp hg ek ex ey ez ew hid wld sk sx sy sz sw dp oS hS lab vs es la pa wk aw fd dg st rl ch :=
    fun q x4 hx4 => sk_yf166 (by omega) hw ih2 hse.2 hx4 sk_n0 ⟨fun _ => by
      by_cases w : sec e = 0
      · exact w
      · exact absurd (hse.1.mp w) q, fun _ => rfl⟩ HJ
  have i1 : ek e = 1 → vp_in (ex e) 10 := by
    intro k
    rcases hw.2 with ⟨k', _⟩ | ⟨k', _, _, _, _, v, hv, hx⟩ | ⟨k', _⟩ | ⟨k', _⟩ | ⟨k', _⟩ | ⟨k', _⟩
    · rw [k] at k'; exact absurd k' (by decide)
    · rw [hx]; exact vp_in_nI (by omega) (by omega)
    · rw [k] at k'; exact absurd k' (by decide)
    · rw [k] at k'; exact absurd k' (by decide)
    · rw [k] at k'; exact absurd k' (by decide)
    · exact absurd k (sk_bin_ne k').2.1
  have i2 : ek e = 2 → vp_in (8 + ex e) 10 := by
    intro k
    rcases hw.2 with ⟨k', _⟩ | ⟨k', _⟩ | ⟨k', _, _, a, p, ha, _, hx, _⟩ | ⟨k', _⟩ | ⟨k', _⟩ | ⟨k', _⟩
    · rw [k] at k'; exact absurd k' (by decide)
    · rw [k] at k'; exact absurd k' (by decide)
    · rw [hx, show (8 : Int32) = nI 8 from rfl, nI_add]; exact vp_in_nI (by omega) (by omega)
    · rw [k] at k'; exact absurd k' (by decide)
    · rw [k] at k'; exact absurd k' (by decide)
    · exact absurd k (sk_bin_ne k').2.2.1
  have H139 : ¬ (ek e = 1 ∧ ¬ lab (ex e).toNatClampNeg = 0) → ¬ sk_ps sec (px e) → ¬ sk_ps sec (py e) → ¬ sk_ps sec (pz e) → ∀ x4 : Int32, (x4 = 0 ↔ ¬ sk_ps sec (py e)) → wY_findSecrets_139 post (wY_findSecrets_2 post (nI M) nN lc pc de tp hg n) (nI e) (ek e) x4 (nI e) (nI M) nN lc pc de tp hg ek ex ey ez ew hid wld sk sx sy sz sw dp oS hS lab vs es la pa wk aw fd dg st rl ch := by
    intro q1 q2 q3 q4 x4 hx4
    have NS : ¬ (ek e = 2 ∧ ¬ lab (8 + ex e).toNatClampNeg = 0) → ¬ ((ek e = 1 ∧ ¬ lab (ex e).toNatClampNeg = 0) ∨ (ek e = 2 ∧ ¬ lab (8 + ex e).toNatClampNeg = 0) ∨ sk_ps sec (px e) ∨ sk_ps sec (py e) ∨ sk_ps sec (pz e)) := by
      intro q5 w
      rcases w with w | w | w | w | w
      · exact q1 w
      · exact q5 w
      · exact q2 w
      · exact q3 w
      · exact q4 w
    unfold wY_findSecrets_139
    rw [c]
    exact br_c (fun k => ⟨i, i2 k, br_c (fun w => K0 (NS (fun v => v.2 w)) x4 hx4) (fun w => K1 (Or.inr (Or.inl ⟨k, w⟩)) x4 hx4)⟩) (fun k => K0 (NS (fun v => k v.1)) x4 hx4)
  have H99 : ∀ x3 x4 z0 : Int32, (x3 = 0 ↔ ¬ sk_ps sec (px e)) → (x4 = 0 ↔ ¬ sk_ps sec (py e)) → (z0 = 0 ↔ ¬ sk_ps sec (pz e)) → wY_findSecrets_99 post (wY_findSecrets_2 post (nI M) nN lc pc de tp hg n) (nI e) (ek e) x3 x4 z0 (nI M) nN lc pc de tp hg ek ex ey ez ew hid wld sk sx sy sz sw dp oS hS lab vs es la pa wk aw fd dg st rl ch := by
    intro x3 x4 z0 h3 h4 h5
    have P : ∀ {x : Int32} {Q : Prop}, (x = 0 ↔ ¬ Q) → ¬ x = 0 → Q := by
      intro x Q h w
      by_cases q : Q
      · exact q
      · exact absurd (h.mpr q) w
    unfold wY_findSecrets_99
    rw [c]
    exact br_c (fun w3 => br_c (fun w4 => br_c (fun w5 => br_c (fun k => ⟨i, i1 k, br_c (fun v => H139 (fun u => u.2 v) (h3.mp w3) (h4.mp w4) (h5.mp w5) x4 h4) (fun v => K1 (Or.inl ⟨k, v⟩) x4 h4)⟩) (fun k => H139 (fun u => k u.1) (h3.mp w3) (h4.mp w4) (h5.mp w5) x4 h4)) (fun w5 => K1 (Or.inr (Or.inr (Or.inr (Or.inr (P h5 w5))))) x4 h4)) (fun w4 => K1 (Or.inr (Or.inr (Or.inr (Or.inl (P h4 w4))))) x4 h4)) (fun w3 => K1 (Or.inr (Or.inr (Or.inl (P h3 w3)))) x4 h4)
  have Z0 : ∀ {Q : Prop}, ¬ Q → ((0 : Int32) = 0 ↔ ¬ Q) := fun q => ⟨fun _ => q, fun _ => rfl⟩
  have O1 : ∀ {x : Int32} {Q : Prop}, (x = 0 ↔ ¬ Q) → ¬ x = 0 → ((1 : Int32) = 0 ↔ ¬ Q) := fun h w => ⟨fun z => absurd z (by decide), fun z => absurd (h.mpr z) w⟩
  have H72 : ∀ x3 z0 : Int32, (x3 = 0 ↔ ¬ sk_ps sec (px e)) → (z0 = 0 ↔ ¬ sk_ps sec (py e)) → wY_findSecrets_72 post (wY_findSecrets_2 post (nI M) nN lc pc de tp hg n) (nI e) (ek e) x3 z0 (nI M) nN lc pc de tp hg ek ex ey ez ew hid wld sk sx sy sz sw dp oS hS lab vs es la pa wk aw fd dg st rl ch := by
    intro x3 z0 h3 h4
    unfold wY_findSecrets_72
    rw [c]
    exact br_c (fun k => ⟨i, (sz1 k).1, br_c (fun w => H99 x3 z0 0 h3 h4 (Z0 ((sz1 k).2.mp w))) (fun w => H99 x3 z0 1 h3 h4 (O1 (sz1 k).2 w))⟩) (fun k => H99 x3 z0 0 h3 h4 (Z0 (sz0 k)))
  have H44 : ∀ z0 : Int32, (z0 = 0 ↔ ¬ sk_ps sec (px e)) → wY_findSecrets_44 post (wY_findSecrets_2 post (nI M) nN lc pc de tp hg n) (nI e) (ek e) z0 (nI M) nN lc pc de tp hg ek ex ey ez ew hid wld sk sx sy sz sw dp oS hS lab vs es la pa wk aw fd dg st rl ch := by
    intro z0 h3
    unfold wY_findSecrets_44
    rw [c]
    exact sk_yhy (fun k => br_f (by decide) ⟨i, (sy1 k).1, br_c (fun w => H72 z0 0 h3 (Z0 ((sy1 k).2.mp w))) (fun w => H72 z0 1 h3 (O1 (sy1 k).2 w))⟩) (fun k => br_t rfl (H72 z0 0 h3 (Z0 (sy0 k))))
  refine br_f (nI_ge he (by omega)) ⟨i, nm_r (e' := ek e) (by rw [c]) ?_⟩
  refine br_c (fun k => br_t rfl (H44 0 (Z0 (sx0 (fun z => z k))))) (fun k => br_f (by decide) ?_)
  rw [c]
  exact ⟨i, (sx1 k).1, br_c (fun w => H44 0 (Z0 ((sx1 k).2.mp w))) (fun w => H44 1 (O1 (sx1 k).2 w))⟩
/-- findSecrets finds what X holds -/
theorem sk_yfs {post : SY → Prop} (hM : M ≤ 50) (HE : ∀ e, e < M → sk_node ek ex ey ez ew px py pz od e) (HQ : ∀ e, e < M → sk_se lab ek ex px py pz sec rdo e)
    (H : ∀ hid' wld' : sk_F, (∀ j, j < M → (hid' j = 0 ↔ sec j = 0) ∧ (wld' j = 0 ↔ ¬ rdo j = 0)) → post (nI M, nN, lc, pc, de, tp, hg, ek, ex, ey, ez, ew, hid', wld', sk, sx, sy, sz, sw, dp, oS, hS, lab, vs, es, la, pa, wk, aw, fd, dg, st, rl, ch)) : wpY_findSecrets post (nI M, nN, lc, pc, de, tp, hg, ek, ex, ey, ez, ew, hid, wld, sk, sx, sy, sz, sw, dp, oS, hS, lab, vs, es, la, pa, wk, aw, fd, dg, st, rl, ch) := by
  have L : ∀ (d e : Nat) (hid wld : sk_F), e + d = M → (∀ j, j < e → (hid j = 0 ↔ sec j = 0) ∧ (wld j = 0 ↔ ¬ rdo j = 0)) → wY_findSecrets_2 post (nI M) nN lc pc de tp hg (d + 1) (nI e) ek ex ey ez ew hid wld sk sx sy sz sw dp oS hS lab vs es la pa wk aw fd dg st rl ch := by
    intro d
    induction d with
    | zero =>
      intro e hid wld hd ih
      have : e = M := by omega
      subst this
      exact br_t (nI_le (Nat.le_refl _) (by omega)) (H hid wld ih)
    | succ d ihd =>
      intro e hid wld hd ih
      refine sk_yfs1 (by omega) hM (HE e (by omega)) (HQ e (by omega)) (fun j hj => (ih j hj).1) (fun j hj => (ih j hj).2) ?_
      intro f1 f2 q1 q2
      refine ihd (e + 1) _ _ (by omega) ?_
      intro j hj
      by_cases hje : j = e
      · subst hje
        rw [pk_us, pk_us]
        exact ⟨q1, q2⟩
      · rw [pk_un hje, pk_un hje]
        exact ih j (by omega)
  exact ⟨M + 1, L M 0 hid wld (by omega) (fun j hj => absurd hj (by omega))⟩
/-- isSafe answers whether the statement is safe in the place -/
theorem sk_yis {post : Int32 → Prop} {s : Nat} {hd : Bool} (hM : M ≤ 50) (hs : s < 40) (hn : sk_stm M ew sk sx sy sz sw dp s) (he : ∀ j, j < M → (hid j = 0 ↔ sec j = 0) ∧ (wld j = 0 ↔ ¬ rdo j = 0)) (ih : ∀ j, j < s → ((oS j = 0 ↔ so j = 0) ∧ (oS j = 0 ∨ oS j = 1)) ∧ ((hS j = 0 ↔ sh j = 0) ∧ (hS j = 0 ∨ hS j = 1)))
    (H1 : sk_sf lab sec rdo sk sx sy sz so sh hd s → post 1) (H0 : ¬ sk_sf lab sec rdo sk sx sy sz so sh hd s → post 0) : wpY_isSafe post (nM, nN, lc, pc, de, tp, hg, ek, ex, ey, ez, ew, hid, wld, sk, sx, sy, sz, sw, dp, oS, hS, lab, vs, es, la, pa, wk, aw, fd, dg, st, rl, ch) (nI s) (sk_bI (!hd)) := by
  have i : vp_in (nI s) 40 := vp_in_nI hs (by omega)
  have c := nI_clamp (show s < 2 ^ 31 by omega)
  have iE : ∀ p, p < M → vp_in (nI p) 50 := fun p hp => vp_in_nI (by omega) (by omega)
  have iS : ∀ p, p < s → vp_in (nI p) 40 := fun p hp => vp_in_nI (by omega) (by omega)
  have cE : ∀ p, p < M → (nI p).toNatClampNeg = p := fun p hp => nI_clamp (by omega)
  have cS : ∀ p, p < s → (nI p).toNatClampNeg = p := fun p hp => nI_clamp (by omega)
  have inO : ∀ p, p < s → (sk_in so sh false (nI p) ↔ ¬ oS p = 0) := by
    intro p hp
    rw [(ih p hp).1.1]
    exact ⟨fun z => sk_in_n (hd := false) (by omega) z, fun z => Or.inr (by rw [cS p hp]; exact z)⟩
  have inH : ∀ p, p < s → (sk_in so sh true (nI p) ↔ ¬ hS p = 0) := by
    intro p hp
    rw [(ih p hp).2.1]
    exact ⟨fun z => sk_in_n (hd := true) (by omega) z, fun z => Or.inr (by rw [cS p hp]; exact z)⟩
  refine ⟨i, nm_r (e' := sk s) (by rw [c]) ⟨i, nm_r (e' := sx s) (by rw [c]) ⟨i, nm_r (e' := sy s) (by rw [c]) ⟨i, nm_r (e' := sz s) (by rw [c]) ?_⟩⟩⟩⟩
  rcases hn.2 with ⟨k, x, p, hx, hp, x1, x2⟩ | ⟨k, a, p, q, ha, hp, hq, x1, x2, x3, r⟩ | ⟨k, p, q, hp, hq, x1, x2, r⟩ | ⟨k, p, q, hp, hq, x1, x2, d, w, r⟩ | ⟨k, x, q, hx, hq, x1, x2, r⟩ | ⟨k, p, q, hp, hq, x1, x2, r⟩ | ⟨k, p, hp, x1⟩
  · rw [sk_sf_0 k, x1, x2, cE p hp] at H1 H0
    rw [k, x1, x2, cE p hp]
    have ix : vp_in (nI x) 10 := vp_in_nI (by omega) (by omega)
    refine br_t rfl ⟨iE p hp, br_c (fun z => ⟨iE p hp, br_c (fun u => ?_) (fun u => ⟨ix, br_c (fun v => H0 (fun w => w.2.elim (fun w => w v) (fun w => u ((he p hp).1.mpr w.2)))) (fun v => ?_)⟩)⟩) (fun z => H0 (fun w => z ((he p hp).2.mpr w.1)))⟩
    · cases hd with
      | false => exact br_f sk_t1 (H1 ⟨(he p hp).2.mp z, Or.inr ⟨rfl, (he p hp).1.mp u⟩⟩)
      | true => exact br_t sk_t0 ⟨ix, br_c (fun v => H0 (fun w => w.2.elim (fun w => w v) (fun w => absurd w.1 (by decide)))) (fun v => H1 ⟨(he p hp).2.mp z, Or.inl v⟩)⟩
    · cases hd with
      | false => exact br_f sk_t1 (H1 ⟨(he p hp).2.mp z, Or.inl v⟩)
      | true => exact br_t sk_t0 ⟨ix, br_c (fun v2 => absurd v2 v) (fun v => H1 ⟨(he p hp).2.mp z, Or.inl v⟩)⟩
  · rw [sk_sf_1 k, x1, x2, x3, cE p hp, cE q hq] at H1 H0
    rw [k, x1, x2, x3, cE p hp, cE q hq]
    have ix : vp_in (8 + nI a) 10 := by rw [show (8 : Int32) = nI 8 from rfl, nI_add]; exact vp_in_nI (by omega) (by omega)
    refine br_f (by decide) (br_t rfl ⟨iE p hp, br_c (fun z => ⟨iE q hq, br_c (fun z2 => ⟨iE p hp, br_c (fun u => ⟨iE q hq, br_c (fun u2 => ?_) (fun u2 => ⟨ix, br_c (fun v => H0 (fun w => w.2.2.2.elim (fun w => w v) (fun w => u2 ((he q hq).1.mpr w.2)))) (fun v => ?_)⟩)⟩) (fun u => H0 (fun w => u ((he p hp).1.mpr w.2.2.1)))⟩) (fun z2 => H0 (fun w => z2 ((he q hq).2.mpr w.2.1)))⟩) (fun z => H0 (fun w => z ((he p hp).2.mpr w.1)))⟩)
    · cases hd with
      | false => exact br_f sk_t1 (H1 ⟨(he p hp).2.mp z, (he q hq).2.mp z2, (he p hp).1.mp u, Or.inr ⟨rfl, (he q hq).1.mp u2⟩⟩)
      | true => exact br_t sk_t0 ⟨ix, br_c (fun v => H0 (fun w => w.2.2.2.elim (fun w => w v) (fun w => absurd w.1 (by decide)))) (fun v => H1 ⟨(he p hp).2.mp z, (he q hq).2.mp z2, (he p hp).1.mp u, Or.inl v⟩)⟩
    · cases hd with
      | false => exact br_f sk_t1 (H1 ⟨(he p hp).2.mp z, (he q hq).2.mp z2, (he p hp).1.mp u, Or.inl v⟩)
      | true => exact br_t sk_t0 ⟨ix, br_c (fun v2 => absurd v2 v) (fun v => H1 ⟨(he p hp).2.mp z, (he q hq).2.mp z2, (he p hp).1.mp u, Or.inl v⟩)⟩
  · rw [sk_sf_2 k, x1, x2] at H1 H0
    rw [k, x1, x2, cS p hp, cS q hq]
    refine br_f (by decide) (br_f (by decide) (br_t rfl ?_))
    cases hd with
    | false =>
      rw [inO p hp, inO q hq] at H1 H0
      exact br_f sk_t1 ⟨iS p hp, br_c (fun z => H0 (fun w => w.1 z)) (fun z => ⟨iS q hq, br_c (fun u => H0 (fun w => w.2 u)) (fun u => H1 ⟨z, u⟩)⟩)⟩
    | true =>
      rw [inH p hp, inH q hq] at H1 H0
      exact br_t sk_t0 ⟨iS p hp, br_c (fun z => H0 (fun w => w.1 z)) (fun z => ⟨iS q hq, br_c (fun u => H0 (fun w => w.2 u)) (fun u => H1 ⟨z, u⟩)⟩)⟩
  · rw [sk_sf_3 k, x1, x2, cE p hp] at H1 H0
    rw [k, x1, x2, cE p hp]
    have V0 : (hd || decide (¬ sec p = 0)) = true → ¬ rdo p = 0 → wY_isSafe_291 post (nI q) (sz s) nM nN lc pc de tp hg ek ex ey ez ew hid wld sk sx sy sz sw dp oS hS lab vs es la pa wk aw fd dg st rl ch := by
      intro e z
      rw [e] at H1 H0
      refine br_t rfl ⟨iS q hq, ?_⟩
      rw [cS q hq]
      refine br_c (fun u => H0 (fun w => (inH q hq).mp w.2.1 u)) (fun u => ?_)
      rcases r with r | ⟨z', hz', r, _⟩
      · rw [r] at H1 H0 ⊢
        exact br_t (by decide) (H1 ⟨z, (inH q hq).mpr u, Or.inl rfl⟩)
      · rw [r] at H1 H0 ⊢
        rw [cS z' hz']
        exact br_f (nI_pos (by omega)) (br_t rfl ⟨iS z' hz', br_c (fun v => H0 (fun w => (inH z' hz').mp w.2.2 v)) (fun v => H1 ⟨z, (inH q hq).mpr u, (inH z' hz').mpr v⟩)⟩)
    have V1 : (hd || decide (¬ sec p = 0)) = false → ¬ rdo p = 0 → wY_isSafe_292 post (nI q) (sz s) 1 nM nN lc pc de tp hg ek ex ey ez ew hid wld sk sx sy sz sw dp oS hS lab vs es la pa wk aw fd dg st rl ch := by
      intro e z
      rw [e] at H1 H0
      refine br_f (by decide) ⟨iS q hq, ?_⟩
      rw [cS q hq]
      refine br_c (fun u => H0 (fun w => (inO q hq).mp w.2.1 u)) (fun u => ?_)
      rcases r with r | ⟨z', hz', r, _⟩
      · rw [r] at H1 H0 ⊢
        exact br_t (by decide) (H1 ⟨z, (inO q hq).mpr u, Or.inl rfl⟩)
      · rw [r] at H1 H0 ⊢
        rw [cS z' hz']
        exact br_f (nI_pos (by omega)) (br_f (by decide) ⟨iS z' hz', br_c (fun v => H0 (fun w => (inO z' hz').mp w.2.2 v)) (fun v => H1 ⟨z, (inO q hq).mpr u, (inO z' hz').mpr v⟩)⟩)
    refine br_f (by decide) (br_f (by decide) (br_f (by decide) (br_f (by decide) ⟨iE p hp, br_c (fun z => br_t rfl ?_) (fun z => H0 (fun w => z ((he p hp).2.mpr w.1)))⟩)))
    have z' := (he p hp).2.mp z
    cases hd with
    | false => exact br_f sk_t1 ⟨iE p hp, br_c (fun u => V1 (by simp [(he p hp).1.mp u]) z') (fun u => V0 (by simp; exact fun v => u ((he p hp).1.mpr v)) z')⟩
    | true => exact br_t sk_t0 (V0 rfl z')
  · rw [sk_sf_4 k, x2] at H1 H0
    rw [k, x2, cS q hq]
    refine br_f (by decide) (br_f (by decide) (br_f (by decide) (br_t rfl ?_)))
    cases hd with
    | false =>
      rw [inO q hq] at H1 H0
      refine br_f sk_t1 ⟨iS q hq, ?_⟩
      rcases (ih q hq).1.2 with e | e
      · rw [e] at H1 H0 ⊢
        exact ⟨rfl, H0 (fun w => w rfl)⟩
      · rw [e] at H1 H0 ⊢
        exact ⟨rfl, H1 (by decide)⟩
    | true =>
      rw [inH q hq] at H1 H0
      refine br_t sk_t0 ⟨iS q hq, ?_⟩
      rcases (ih q hq).2.2 with e | e
      · rw [e] at H1 H0 ⊢
        exact ⟨rfl, H0 (fun w => w rfl)⟩
      · rw [e] at H1 H0 ⊢
        exact ⟨rfl, H1 (by decide)⟩
  · rw [sk_sf_5 k, x1, x2, cE p hp] at H1 H0
    rw [k, x1, x2, cE p hp, cS q hq]
    refine br_f (by decide) (br_f (by decide) (br_f (by decide) (br_f (by decide) ⟨iE p hp, br_c (fun z => br_f (by decide) ?_) (fun z => H0 (fun w => z ((he p hp).2.mpr w.2.1)))⟩)))
    cases hd with
    | false =>
      rw [inO q hq] at H1 H0
      exact br_f sk_t1 ⟨iE p hp, br_c (fun u => br_f (by decide) ⟨iS q hq, br_c (fun v => H0 (fun w => w.2.2.2 v)) (fun v => H1 ⟨rfl, (he p hp).2.mp z, (he p hp).1.mp u, v⟩)⟩) (fun u => H0 (fun w => u ((he p hp).1.mpr w.2.2.1)))⟩
    | true => exact br_t sk_t0 (H0 (fun w => absurd w.1 (by decide)))
  · rw [sk_sf_6 k, x1, cE p hp] at H1 H0
    rw [k, x1, cE p hp]
    refine br_f (by decide) (br_f (by decide) (br_f (by decide) (br_f (by decide) ⟨iE p hp, br_c (fun z => br_f (by decide) ?_) (fun z => H0 (fun w => z ((he p hp).2.mpr w.2.1)))⟩)))
    cases hd with
    | false => exact br_f sk_t1 ⟨iE p hp, br_c (fun u => br_t rfl (H1 ⟨rfl, (he p hp).2.mp z, (he p hp).1.mp u⟩)) (fun u => H0 (fun w => u ((he p hp).1.mpr w.2.2)))⟩
    | true => exact br_t sk_t0 (H0 (fun w => absurd w.1 (by decide)))
/-- findSafe finds what X holds -/
theorem sk_yfa {post : SY → Prop} (hM : M ≤ 50) (hN : N ≤ 40) (HE : ∀ e, e < M → sk_node ek ex ey ez ew px py pz od e) (HQ : ∀ e, e < M → sk_se lab ek ex px py pz sec rdo e) (HS : ∀ s, s < N → sk_stm M ew sk sx sy sz sw dp s) (HF : ∀ s, s < N → sk_sfe lab sec rdo sk sx sy sz so sh s)
    (H : ∀ hid' wld' oS' hS' : sk_F, (∀ j, j < M → (hid' j = 0 ↔ sec j = 0)) → (∀ j, j < N → (oS' j = 0 ↔ so j = 0)) → post (nI M, nI N, lc, pc, de, tp, hg, ek, ex, ey, ez, ew, hid', wld', sk, sx, sy, sz, sw, dp, oS', hS', lab, vs, es, la, pa, wk, aw, fd, dg, st, rl, ch)) : wpY_findSafe post (nI M, nI N, lc, pc, de, tp, hg, ek, ex, ey, ez, ew, hid, wld, sk, sx, sy, sz, sw, dp, oS, hS, lab, vs, es, la, pa, wk, aw, fd, dg, st, rl, ch) := by
  refine sk_yfs hM HE HQ (fun hid wld he => ?_)
  have L : ∀ (d s : Nat) (oS hS : sk_F), s + d = N → (∀ j, j < s → ((oS j = 0 ↔ so j = 0) ∧ (oS j = 0 ∨ oS j = 1)) ∧ ((hS j = 0 ↔ sh j = 0) ∧ (hS j = 0 ∨ hS j = 1))) → wY_findSafe_6 post (nI M) (nI N) lc pc de tp hg (d + 1) (nI s) ek ex ey ez ew hid wld sk sx sy sz sw dp oS hS lab vs es la pa wk aw fd dg st rl ch := by
    intro d
    induction d with
    | zero =>
      intro s oS hS hd ih
      have : s = N := by omega
      subst this
      exact br_t (nI_le (Nat.le_refl _) (by omega)) (H hid wld oS hS (fun j hj => (he j hj).1) (fun j hj => (ih j hj).1.1))
    | succ d ihd =>
      intro s oS hS hd ih
      have i : vp_in (nI s) 40 := vp_in_nI (by omega) (by omega)
      have c := nI_clamp (show s < 2 ^ 31 by omega)
      have hf := HF s (by omega)
      have G : ∀ f1 f2 : Int32, (f1 = 0 ↔ so s = 0) → (f1 = 0 ∨ f1 = 1) → (f2 = 0 ↔ sh s = 0) → (f2 = 0 ∨ f2 = 1) → wY_findSafe_6 post (nI M) (nI N) lc pc de tp hg (d + 1) (nI (s + 1)) ek ex ey ez ew hid wld sk sx sy sz sw dp ((upd oS s f1)) ((upd hS s f2)) lab vs es la pa wk aw fd dg st rl ch := by
        intro f1 f2 q1 q2 q3 q4
        refine ihd (s + 1) _ _ (by omega) ?_
        intro j hj
        by_cases hjs : j = s
        · subst hjs
          rw [pk_us, pk_us]
          exact ⟨⟨q1, q2⟩, ⟨q3, q4⟩⟩
        · rw [pk_un hjs, pk_un hjs]
          exact ih j (by omega)
      have ih2 : ∀ f1 : Int32, ∀ j, j < s → ((upd oS s f1 j = 0 ↔ so j = 0) ∧ (upd oS s f1 j = 0 ∨ upd oS s f1 j = 1)) ∧ ((hS j = 0 ↔ sh j = 0) ∧ (hS j = 0 ∨ hS j = 1)) := by
        intro f1 j hj
        rw [pk_un (by omega)]
        exact ih j hj
      have S1 : ∀ {x : Int32} {Q : Prop}, (¬ x = 0 ↔ Q) → Q → ((1 : Int32) = 0 ↔ x = 0) := fun h q => ⟨fun z => absurd z (by decide), fun z => absurd z (h.mpr q)⟩
      have S0 : ∀ {x : Int32} {Q : Prop}, (¬ x = 0 ↔ Q) → ¬ Q → ((0 : Int32) = 0 ↔ x = 0) := by
        intro x Q h q
        refine ⟨fun _ => ?_, fun _ => rfl⟩
        by_cases z : x = 0
        · exact z
        · exact absurd (h.mp z) q
      have B : ∀ f1 : Int32, (f1 = 0 ↔ so s = 0) → (f1 = 0 ∨ f1 = 1) → wpY_isSafe (fun r_74 => (vp_in (nI s) 40 ∧ ∀ a : sk_F, a = upd hS (nI s).toNatClampNeg (vp_nar .boolean r_74) → ∀ x1_111 : Int32, x1_111 = nI s + 1 → wY_findSafe_6 post (nI M) (nI N) lc pc de tp hg (d + 1) x1_111 ek ex ey ez ew hid wld sk sx sy sz sw dp ((upd oS s f1)) a lab vs es la pa wk aw fd dg st rl ch)) (nI M, nI N, lc, pc, de, tp, hg, ek, ex, ey, ez, ew, hid, wld, sk, sx, sy, sz, sw, dp, upd oS s f1, hS, lab, vs, es, la, pa, wk, aw, fd, dg, st, rl, ch) (nI s) 0 := by
        intro f1 q1 q2
        exact sk_yis (hd := true) hM (by omega) (HS s (by omega)) he (ih2 f1) (fun q => ⟨i, nm_r (e' := upd hS s 1) (by rw [c, sk_n1]) (nm_r (nI_1 s) (G f1 1 q1 q2 (S1 hf.2 q) (Or.inr rfl)))⟩) (fun q => ⟨i, nm_r (e' := upd hS s 0) (by rw [c, sk_n0]) (nm_r (nI_1 s) (G f1 0 q1 q2 (S0 hf.2 q) (Or.inl rfl)))⟩)
      refine br_f (nI_ge (by omega) (by omega)) ?_
      exact sk_yis (hd := false) hM (by omega) (HS s (by omega)) he ih (fun q => ⟨i, nm_r (e' := upd oS s 1) (by rw [c, sk_n1]) (B 1 (S1 hf.1 q) (Or.inr rfl))⟩) (fun q => ⟨i, nm_r (e' := upd oS s 0) (by rw [c, sk_n0]) (B 0 (S0 hf.1 q) (Or.inl rfl))⟩)
  exact ⟨N + 1, L N 0 oS hS (by omega) (fun j hj => absurd hj (by omega))⟩
end
