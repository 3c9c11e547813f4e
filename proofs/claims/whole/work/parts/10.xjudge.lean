/-! 10: X judges an expression and a statement -/
section
variable {nM nN pl lc pc : Int32} {M N : Nat} {vs es lab ek ex ey ez px py pz ew od sec rdo sk sx sy sz sw dp so sh la pa vl ps pt pr : sk_F}
theorem sk_pt_le {x : Int32} {a b : Nat} (h : sk_pt x a) (hab : a ≤ b) : sk_pt x b := by
  rcases h with h | ⟨p, hp, h⟩
  · exact Or.inl h
  · exact Or.inr ⟨p, by omega, h⟩
theorem sk_pt_in {x : Int32} {a : Nat} (h : sk_pt x a) (ha : a ≤ 50) (hx : ¬ x = -1) : vp_in x a := by
  rcases h with h | ⟨p, hp, h⟩
  · exact absurd h hx
  · rw [h]; exact vp_in_nI hp (by omega)
theorem sk_xis {post : Int32 → Prop} {x : Int32} (hx : sk_pt x 50) (H1 : sk_ps sec x → post 1) (H0 : ¬ sk_ps sec x → post 0) : wpX_isSecretPart post (nM, nN, lc, pc, pl, vs, es, lab, ek, ex, px, py, pz, ew, od, sec, rdo, sk, sx, sy, sz, sw, dp, so, sh, la, pa, vl, ps, pt, pr) x := by
  by_cases h : x = -1
  · exact br_t h (H0 (fun z => z.1 h))
  · exact br_f h ⟨sk_pt_in hx (by omega) h, br_c (fun z => H0 (fun w => w.2 z)) (fun z => H1 ⟨h, z⟩)⟩
theorem sk_xro {post : Int32 → Prop} {x : Int32} (hx : sk_pt x 50) (H1 : sk_pr rdo x → post 1) (H0 : ¬ sk_pr rdo x → post 0) : wpX_partReadsOpenly post (nM, nN, lc, pc, pl, vs, es, lab, ek, ex, px, py, pz, ew, od, sec, rdo, sk, sx, sy, sz, sw, dp, so, sh, la, pa, vl, ps, pt, pr) x := by
  by_cases h : x = -1
  · exact br_t h (H1 (Or.inl h))
  · exact br_f h ⟨sk_pt_in hx (by omega) h, br_c (fun z => H0 (fun w => w.elim h (fun w => w z))) (fun z => H1 (Or.inr z))⟩
theorem sk_xj118 {post : SX → Prop} {e : Nat} (he : e < 50) (hp : sk_pt (px e) 50 ∧ sk_pt (py e) 50 ∧ sk_pt (pz e) 50)
    (H : ∀ f : Int32, (¬ f = 0 ↔ (sk_pr rdo (px e) ∧ sk_pr rdo (py e) ∧ sk_pr rdo (pz e))) → post (nM, nN, lc, pc, pl, vs, es, lab, ek, ex, px, py, pz, ew, od, sec, upd rdo e f, sk, sx, sy, sz, sw, dp, so, sh, la, pa, vl, ps, pt, pr)) : wX_judgeExpression_118 post (nI e) (nI e) nM nN lc pc pl vs es lab ek ex px py pz ew od sec rdo sk sx sy sz sw dp so sh la pa vl ps pt pr := by
  have i : vp_in (nI e) 50 := vp_in_nI he (by omega)
  have c := nI_clamp (show e < 2 ^ 31 by omega)
  have n1 : ¬ (1 : Int32) = 0 := by decide
  have F : ¬ (sk_pr rdo (px e) ∧ sk_pr rdo (py e) ∧ sk_pr rdo (pz e)) → post (nM, nN, lc, pc, pl, vs, es, lab, ek, ex, px, py, pz, ew, od, sec, upd rdo e (vp_nar .boolean 0), sk, sx, sy, sz, sw, dp, so, sh, la, pa, vl, ps, pt, pr) := fun z => H _ ⟨fun w => absurd sk_n0 w, fun w => absurd w z⟩
  unfold wX_judgeExpression_118
  rw [c]
  refine ⟨i, sk_xro hp.1 (fun q1 => br_f n1 ⟨i, sk_xro hp.2.1 (fun q2 => br_f n1 ⟨i, sk_xro hp.2.2 (fun q3 => br_f n1 ⟨i, nm_e (H _ ⟨fun _ => ⟨q1, q2, q3⟩, fun _ => by rw [sk_n1]; decide⟩)⟩) (fun q => br_t rfl ⟨i, nm_e (F (fun z => q z.2.2))⟩)⟩) (fun q => br_t rfl ⟨i, nm_e (F (fun z => q z.2.1))⟩)⟩) (fun q => br_t rfl ⟨i, nm_e (F (fun z => q z.1))⟩)⟩
theorem sk_xj94 {post : SX → Prop} {e : Nat} {z z' : Int32} (he : e < 50) (hp : sk_pt (px e) e ∧ sk_pt (py e) e ∧ sk_pt (pz e) e) (hz : vp_nar .boolean z = z')
    (H : ∀ f : Int32, (¬ f = 0 ↔ ((ek e = 2 → ¬ sk_ps sec (py e)) ∧ sk_pr rdo (px e) ∧ sk_pr rdo (py e) ∧ sk_pr rdo (pz e))) → post (nM, nN, lc, pc, pl, vs, es, lab, ek, ex, px, py, pz, ew, od, upd sec e z', upd rdo e f, sk, sx, sy, sz, sw, dp, so, sh, la, pa, vl, ps, pt, pr)) : wX_judgeExpression_94 post (nI e) (ek e) z (nI e) nM nN lc pc pl vs es lab ek ex px py pz ew od sec rdo sk sx sy sz sw dp so sh la pa vl ps pt pr := by
  subst hz
  have i : vp_in (nI e) 50 := vp_in_nI he (by omega)
  have c := nI_clamp (show e < 2 ^ 31 by omega)
  have hp2 : sk_pt (px e) 50 ∧ sk_pt (py e) 50 ∧ sk_pt (pz e) 50 := ⟨sk_pt_le hp.1 (by omega), sk_pt_le hp.2.1 (by omega), sk_pt_le hp.2.2 (by omega)⟩
  have up : sk_ps (upd sec e (vp_nar .boolean z)) (py e) ↔ sk_ps sec (py e) := sk_ps_up hp.2.1 (by omega) (fun j hj => pk_un (by omega))
  unfold wX_judgeExpression_94
  rw [c]
  refine ⟨i, nm_e (br_c (fun k => ⟨i, sk_xis hp2.2.1 (fun q => br_f (by decide) ⟨i, nm_e (H _ ⟨fun w => absurd sk_n0 w, fun w => absurd (up.mp q) (w.1 k)⟩)⟩) (fun q => br_t rfl ?_)⟩) (fun k => ?_))⟩
  · exact sk_xj118 he hp2 (fun f hf => H f ⟨fun w => ⟨fun _ w2 => q (up.mpr w2), hf.mp w⟩, fun w => hf.mpr w.2⟩)
  · exact sk_xj118 he hp2 (fun f hf => H f ⟨fun w => ⟨fun k2 => absurd k2 k, hf.mp w⟩, fun w => hf.mpr w.2⟩)
/-- judgeExpression makes the expression's own equation true and changes nothing else -/
theorem sk_xje {post : SX → Prop} {e : Nat} (he : e < 50) (hn : sk_node ek ex ey ez ew px py pz od e)
    (H : ∀ sec' rdo' : sk_F, (∀ j, ¬ j = e → sec' j = sec j ∧ rdo' j = rdo j) → sk_se lab ek ex px py pz sec' rdo' e → post (nM, nN, lc, pc, pl, vs, es, lab, ek, ex, px, py, pz, ew, od, sec', rdo', sk, sx, sy, sz, sw, dp, so, sh, la, pa, vl, ps, pt, pr)) : wpX_judgeExpression post (nM, nN, lc, pc, pl, vs, es, lab, ek, ex, px, py, pz, ew, od, sec, rdo, sk, sx, sy, sz, sw, dp, so, sh, la, pa, vl, ps, pt, pr) (nI e) := by
  have i : vp_in (nI e) 50 := vp_in_nI he (by omega)
  have c := nI_clamp (show e < 2 ^ 31 by omega)
  have hp := sk_node_pt hn
  have hp2 : sk_pt (px e) 50 ∧ sk_pt (py e) 50 ∧ sk_pt (pz e) 50 := ⟨sk_pt_le hp.1 (by omega), sk_pt_le hp.2.1 (by omega), sk_pt_le hp.2.2 (by omega)⟩
  have K : ∀ z z' : Int32, vp_nar .boolean z = z' → (¬ z' = 0 ↔ ((ek e = 1 ∧ ¬ lab (ex e).toNatClampNeg = 0) ∨ (ek e = 2 ∧ ¬ lab (8 + ex e).toNatClampNeg = 0) ∨ sk_ps sec (px e) ∨ sk_ps sec (py e) ∨ sk_ps sec (pz e))) → wX_judgeExpression_94 post (nI e) (ek e) z (nI e) nM nN lc pc pl vs es lab ek ex px py pz ew od sec rdo sk sx sy sz sw dp so sh la pa vl ps pt pr := by
    intro z z' hz hq
    refine sk_xj94 he hp hz (fun f hf => H _ _ (fun j hj => ⟨pk_un hj, pk_un hj⟩) ?_)
    have us : ∀ j, j < e → upd sec e z' j = sec j := fun j hj => pk_un (by omega)
    have ur : ∀ j, j < e → upd rdo e f j = rdo j := fun j hj => pk_un (by omega)
    unfold sk_se
    rw [pk_us, pk_us, sk_ps_up hp.1 (by omega) us, sk_ps_up hp.2.1 (by omega) us, sk_ps_up hp.2.2 (by omega) us, sk_pr_up hp.1 (by omega) ur, sk_pr_up hp.2.1 (by omega) ur, sk_pr_up hp.2.2 (by omega) ur]
    exact ⟨hq, hf⟩
  have K1 : ((ek e = 1 ∧ ¬ lab (ex e).toNatClampNeg = 0) ∨ (ek e = 2 ∧ ¬ lab (8 + ex e).toNatClampNeg = 0) ∨ sk_ps sec (px e) ∨ sk_ps sec (py e) ∨ sk_ps sec (pz e)) → wX_judgeExpression_94 post (nI e) (ek e) 1 (nI e) nM nN lc pc pl vs es lab ek ex px py pz ew od sec rdo sk sx sy sz sw dp so sh la pa vl ps pt pr :=
    fun q => K 1 1 sk_n1 ⟨fun _ => q, fun _ => by decide⟩
  have K50 : ¬ (ek e = 1 ∧ ¬ lab (ex e).toNatClampNeg = 0) → ¬ (ek e = 2 ∧ ¬ lab (8 + ex e).toNatClampNeg = 0) → wX_judgeExpression_50 post (nI e) (ek e) (nI e) nM nN lc pc pl vs es lab ek ex px py pz ew od sec rdo sk sx sy sz sw dp so sh la pa vl ps pt pr := by
    intro q1 q2
    unfold wX_judgeExpression_50
    rw [c]
    refine ⟨i, sk_xis hp2.1 (fun q => br_f (by decide) (K1 (Or.inr (Or.inr (Or.inl q))))) (fun q3 => br_t rfl ⟨i, sk_xis hp2.2.1 (fun q => br_f (by decide) (K1 (Or.inr (Or.inr (Or.inr (Or.inl q)))))) (fun q4 => br_t rfl ⟨i, sk_xis hp2.2.2 (fun q => br_f (by decide) (K1 (Or.inr (Or.inr (Or.inr (Or.inr q)))))) (fun q5 => br_t rfl (K 0 0 sk_n0 ⟨fun w => absurd rfl w, ?_⟩))⟩)⟩)⟩
    intro w
    rcases w with w | w | w | w | w
    · exact absurd w q1
    · exact absurd w q2
    · exact absurd w q3
    · exact absurd w q4
    · exact absurd w q5
  have i1 : ek e = 1 → vp_in (ex e) 10 := by
    intro k
    rcases hn.2 with ⟨k', _⟩ | ⟨k', _, _, _, _, v, hv, hx⟩ | ⟨k', _⟩ | ⟨k', _⟩ | ⟨k', _⟩ | ⟨k', _⟩
    · rw [k] at k'; exact absurd k' (by decide)
    · rw [hx]; exact vp_in_nI (by omega) (by omega)
    · rw [k] at k'; exact absurd k' (by decide)
    · rw [k] at k'; exact absurd k' (by decide)
    · rw [k] at k'; exact absurd k' (by decide)
    · exact absurd k (sk_bin_ne k').2.1
  have i2 : ek e = 2 → vp_in (8 + ex e) 10 := by
    intro k
    rcases hn.2 with ⟨k', _⟩ | ⟨k', _⟩ | ⟨k', _, _, a, p, ha, _, hx, _⟩ | ⟨k', _⟩ | ⟨k', _⟩ | ⟨k', _⟩
    · rw [k] at k'; exact absurd k' (by decide)
    · rw [k] at k'; exact absurd k' (by decide)
    · rw [hx, show (8 : Int32) = nI 8 from rfl, nI_add]; exact vp_in_nI (by omega) (by omega)
    · rw [k] at k'; exact absurd k' (by decide)
    · rw [k] at k'; exact absurd k' (by decide)
    · exact absurd k (sk_bin_ne k').2.2.1
  have K33 : ¬ (ek e = 1 ∧ ¬ lab (ex e).toNatClampNeg = 0) → wX_judgeExpression_33 post (nI e) (ek e) (ex e) (nI e) nM nN lc pc pl vs es lab ek ex px py pz ew od sec rdo sk sx sy sz sw dp so sh la pa vl ps pt pr := fun q1 =>
    br_c (fun k => ⟨i2 k, br_c (fun z => K50 q1 (fun w => w.2 z)) (fun z => K1 (Or.inr (Or.inl ⟨k, z⟩)))⟩) (fun k => K50 q1 (fun w => k w.1))
  refine ⟨i, nm_r (e' := ek e) (by rw [c]) ⟨i, nm_r (e' := ex e) (by rw [c]) ?_⟩⟩
  exact br_c (fun k => ⟨i1 k, br_c (fun z => K33 (fun w => w.2 z)) (fun z => K1 (Or.inl ⟨k, z⟩))⟩) (fun k => K33 (fun w => k w.1))
theorem sk_xin {post : Int32 → Prop} {x : Int32} {hd : Bool} (hx : sk_pt x 40) (H1 : sk_in so sh hd x → post 1) (H0 : ¬ sk_in so sh hd x → post 0) : wpX_isSafeIn post (nM, nN, lc, pc, pl, vs, es, lab, ek, ex, px, py, pz, ew, od, sec, rdo, sk, sx, sy, sz, sw, dp, so, sh, la, pa, vl, ps, pt, pr) x (sk_bI hd) := by
  by_cases h : x = -1
  · exact br_t h (H1 (Or.inl h))
  · have i := sk_pt_in hx (by omega) h
    cases hd with
    | false => exact br_f h (br_t sk_t0 ⟨i, br_c (fun z => H0 (fun w => w.elim h (fun w => w z))) (fun z => H1 (Or.inr z))⟩)
    | true => exact br_f h (br_f sk_t1 ⟨i, br_c (fun z => H0 (fun w => w.elim h (fun w => w z))) (fun z => H1 (Or.inr z))⟩)
theorem sk_xmt {post : Int32 → Prop} {x p1 : Int32} (hx : vp_in x 10) (H1 : (¬ lab x.toNatClampNeg = 0 ∨ p1 = 0) → post 1) (H0 : ¬ (¬ lab x.toNatClampNeg = 0 ∨ p1 = 0) → post 0) : wpX_mayTake post (nM, nN, lc, pc, pl, vs, es, lab, ek, ex, px, py, pz, ew, od, sec, rdo, sk, sx, sy, sz, sw, dp, so, sh, la, pa, vl, ps, pt, pr) x p1 :=
  ⟨hx, br_c (fun z => br_c (fun w => H1 (Or.inr w)) (fun w => H0 (fun q => q.elim (fun q => q z) w))) (fun z => H1 (Or.inl z))⟩
/-- holdsIn answers whether the statement is safe in the place -/
theorem sk_xhold {post : Int32 → Prop} {s : Nat} {hd : Bool} (hM : M ≤ 50) (hs : s < 40) (hn : sk_stm M ew sk sx sy sz sw dp s) (H1 : sk_sf lab sec rdo sk sx sy sz so sh hd s → post 1) (H0 : ¬ sk_sf lab sec rdo sk sx sy sz so sh hd s → post 0) : wpX_holdsIn post (nM, nN, lc, pc, pl, vs, es, lab, ek, ex, px, py, pz, ew, od, sec, rdo, sk, sx, sy, sz, sw, dp, so, sh, la, pa, vl, ps, pt, pr) (nI s) (sk_bI hd) := by
  have i : vp_in (nI s) 40 := vp_in_nI hs (by omega)
  have c := nI_clamp (show s < 2 ^ 31 by omega)
  have iE : ∀ p, p < M → vp_in (nI p) 50 := fun p hp => vp_in_nI (by omega) (by omega)
  have pS : ∀ p, p < s → sk_pt (nI p) 40 := fun p hp => Or.inr ⟨p, by omega, rfl⟩
  have hf : ∀ {hd : Bool}, ¬ hd = false → hd = true := fun {hd} h => by cases hd; exact absurd rfl h; rfl
  refine ⟨i, nm_r (e' := sx s) (by rw [c]) ⟨i, nm_r (e' := sy s) (by rw [c]) ⟨i, nm_r (e' := sz s) (by rw [c]) ⟨i, nm_r (e' := sk s) (by rw [c]) ?_⟩⟩⟩⟩
  rcases hn.2 with ⟨k, x, p, hx, hp, x1, x2⟩ | ⟨k, a, p, q, ha, hp, hq, x1, x2, x3, r⟩ | ⟨k, p, q, hp, hq, x1, x2, r⟩ | ⟨k, p, q, hp, hq, x1, x2, d, w, r⟩ | ⟨k, x, q, hx, hq, x1, x2, r⟩ | ⟨k, p, q, hp, hq, x1, x2, r⟩ | ⟨k, p, hp, x1⟩
  · rw [sk_sf_0 k] at H1 H0
    rw [k, x1, x2]
    rw [x1, x2] at H1 H0
    have ix : vp_in (nI x) 10 := vp_in_nI (by omega) (by omega)
    unfold wX_holdsIn_94 wX_holdsIn_99
    refine br_f (by decide) (br_f (by decide) (br_t rfl ⟨iE p hp, br_c (fun z => H0 (fun w => w.1 z)) (fun z => ?_)⟩))
    cases hd with
    | false =>
      refine br_t sk_t0 ⟨iE p hp, br_c (fun z2 => (sk_xmt ix (fun q => br_f (by decide) (H1 ⟨z, q.imp id (fun _ => ⟨rfl, z2⟩)⟩)) (fun q => br_t rfl (H0 (fun w => q (w.2.imp id (fun _ => rfl))))))) (fun z2 => (sk_xmt ix (fun q => br_f (by decide) (H1 ⟨z, Or.inl (q.elim id (fun q => absurd q (by decide)))⟩)) (fun q => br_t rfl (H0 (fun w => q (Or.inl (w.2.elim id (fun w => absurd w.2 z2))))))))⟩
    | true =>
      refine br_f sk_t1 (sk_xmt ix (fun q => br_f (by decide) (H1 ⟨z, Or.inl (q.elim id (fun q => absurd q (by decide)))⟩)) (fun q => br_t rfl (H0 (fun w => q (Or.inl (w.2.elim id (fun w => absurd w.1 (by decide))))))))
  · rw [sk_sf_1 k] at H1 H0
    rw [k, x1, x2, x3]
    rw [x1, x2, x3] at H1 H0
    have ix : vp_in (8 + nI a) 10 := by rw [show (8 : Int32) = nI 8 from rfl, nI_add]; exact vp_in_nI (by omega) (by omega)
    unfold wX_holdsIn_160 wX_holdsIn_165
    refine br_f (by decide) (br_f (by decide) (br_f (by decide) (br_t rfl ⟨iE p hp, br_c (fun z => H0 (fun w => w.1 z)) (fun z => ⟨iE q hq, br_c (fun y => H0 (fun w => w.2.1 y)) (fun y => ⟨iE p hp, br_c (fun u => ?_) (fun u => H0 (fun w => u w.2.2.1))⟩)⟩)⟩)))
    cases hd with
    | false =>
      refine br_t sk_t0 ⟨iE q hq, br_c (fun z2 => (sk_xmt ix (fun q => br_f (by decide) (H1 ⟨z, y, u, q.imp id (fun _ => ⟨rfl, z2⟩)⟩)) (fun q => br_t rfl (H0 (fun w => q (w.2.2.2.imp id (fun _ => rfl))))))) (fun z2 => (sk_xmt ix (fun q => br_f (by decide) (H1 ⟨z, y, u, Or.inl (q.elim id (fun q => absurd q (by decide)))⟩)) (fun q => br_t rfl (H0 (fun w => q (Or.inl (w.2.2.2.elim id (fun w => absurd w.2 z2))))))))⟩
    | true =>
      refine br_f sk_t1 (sk_xmt ix (fun q => br_f (by decide) (H1 ⟨z, y, u, Or.inl (q.elim id (fun q => absurd q (by decide)))⟩)) (fun q => br_t rfl (H0 (fun w => q (Or.inl (w.2.2.2.elim id (fun w => absurd w.1 (by decide))))))))
  · rw [sk_sf_2 k] at H1 H0
    rw [k, x1, x2]
    rw [x1, x2] at H1 H0
    exact br_f (by decide) (br_f (by decide) (br_f (by decide) (br_f (by decide) (br_t rfl (sk_xin (pS p hp) (fun y => br_f (by decide) (sk_xin (pS q hq) (fun z => br_f (by decide) (H1 ⟨y, z⟩)) (fun z => br_t rfl (H0 (fun w => z w.2))))) (fun y => br_t rfl (H0 (fun w => y w.1))))))))
  · rw [sk_sf_3 k] at H1 H0
    have hz : sk_pt (sz s) 40 := by
      rcases r with r | ⟨z, hz, r, _⟩
      · exact Or.inl r
      · exact Or.inr ⟨z, by omega, r⟩
    rw [k, x1, x2]
    rw [x1, x2] at H1 H0
    have V : ∀ hd2 : Bool, (hd || decide (¬ sec (nI p).toNatClampNeg = 0)) = hd2 → wX_holdsIn_220 post (nI p) (nI q) (sz s) (sk_bI hd2) nM nN lc pc pl vs es lab ek ex px py pz ew od sec rdo sk sx sy sz sw dp so sh la pa vl ps pt pr := by
      intro hd2 e
      rw [e] at H1 H0
      exact ⟨iE p hp, br_c (fun y => H0 (fun w => w.1 y)) (fun y => sk_xin (pS q hq) (fun y2 => br_f (by decide) (sk_xin hz (fun y3 => br_f (by decide) (H1 ⟨y, y2, y3⟩)) (fun y3 => br_t rfl (H0 (fun w => y3 w.2.2))))) (fun y2 => br_t rfl (H0 (fun w => y2 w.2.1))))⟩
    cases hd with
    | false => exact br_f (by decide) (br_f (by decide) (br_f (by decide) (br_f (by decide) (br_f (by decide) (br_t rfl (br_t sk_t0 ⟨iE p hp, br_c (fun z => V false (by simp [z])) (fun z => V true (by simp [z]))⟩))))))
    | true => exact br_f (by decide) (br_f (by decide) (br_f (by decide) (br_f (by decide) (br_f (by decide) (br_t rfl (br_f sk_t1 (V true rfl)))))))
  · rw [sk_sf_4 k] at H1 H0
    rw [k, x2]
    rw [x2] at H1 H0
    exact br_f (by decide) (br_f (by decide) (br_f (by decide) (br_f (by decide) (br_f (by decide) (br_f (by decide) (br_t rfl (sk_xin (pS q hq) (fun y => ⟨rfl, H1 y⟩) (fun y => ⟨rfl, H0 y⟩))))))))
  · rw [sk_sf_5 k] at H1 H0
    rw [k, x1, x2]
    rw [x1, x2] at H1 H0
    cases hd with
    | false => exact br_f (by decide) (br_f (by decide) (br_f (by decide) (br_f (by decide) (br_f (by decide) (br_f (by decide) (br_f (by decide) (br_t rfl (br_t sk_t0 ⟨iE p hp, br_c (fun z => H0 (fun w => w.2.1 z)) (fun z => ⟨iE p hp, br_c (fun y => sk_xin (hd := false) (pS q hq) (fun u => br_f (by decide) (H1 ⟨rfl, z, y, u⟩)) (fun u => br_t rfl (H0 (fun w => u w.2.2.2)))) (fun y => H0 (fun w => y w.2.2.1))⟩)⟩))))))))
    | true => exact br_f (by decide) (br_f (by decide) (br_f (by decide) (br_f (by decide) (br_f (by decide) (br_f (by decide) (br_f (by decide) (br_t rfl (br_f sk_t1 (H0 (fun w => absurd w.1 (by decide)))))))))))
  · rw [sk_sf_6 k] at H1 H0
    rw [k, x1]
    rw [x1] at H1 H0
    cases hd with
    | false => exact br_f (by decide) (br_t (by decide) (br_t sk_t0 ⟨iE p hp, br_c (fun z => H0 (fun w => w.2.1 z)) (fun z => ⟨iE p hp, br_c (fun y => H1 ⟨rfl, z, y⟩) (fun y => H0 (fun w => y w.2.2))⟩)⟩))
    | true => exact br_f (by decide) (br_t (by decide) (br_f sk_t1 (H0 (fun w => absurd w.1 (by decide)))))
/-- judgeStatement makes the statement's own equation true and changes nothing else -/
theorem sk_xjs {post : SX → Prop} {s : Nat} (hM : M ≤ 50) (hs : s < 40) (hn : sk_stm M ew sk sx sy sz sw dp s)
    (H : ∀ so' sh' : sk_F, (∀ j, ¬ j = s → so' j = so j ∧ sh' j = sh j) → sk_sfe lab sec rdo sk sx sy sz so' sh' s → post (nM, nN, lc, pc, pl, vs, es, lab, ek, ex, px, py, pz, ew, od, sec, rdo, sk, sx, sy, sz, sw, dp, so', sh', la, pa, vl, ps, pt, pr)) : wpX_judgeStatement post (nM, nN, lc, pc, pl, vs, es, lab, ek, ex, px, py, pz, ew, od, sec, rdo, sk, sx, sy, sz, sw, dp, so, sh, la, pa, vl, ps, pt, pr) (nI s) := by
  have i : vp_in (nI s) 40 := vp_in_nI hs (by omega)
  have c := nI_clamp (show s < 2 ^ 31 by omega)
  have K : ∀ f1 f2 : Int32, (¬ f1 = 0 ↔ sk_sf lab sec rdo sk sx sy sz so sh false s) → (¬ f2 = 0 ↔ sk_sf lab sec rdo sk sx sy sz (upd so s f1) sh true s) → post (nM, nN, lc, pc, pl, vs, es, lab, ek, ex, px, py, pz, ew, od, sec, rdo, sk, sx, sy, sz, sw, dp, upd so s f1, upd sh s f2, la, pa, vl, ps, pt, pr) := by
    intro f1 f2 q1 q2
    refine H _ _ (fun j hj => ⟨pk_un hj, pk_un hj⟩) ?_
    have ag : ∀ j, j < s → upd so s f1 j = so j ∧ upd sh s f2 j = sh j := fun j hj => ⟨pk_un (by omega), pk_un (by omega)⟩
    have ag2 : ∀ j, j < s → upd so s f1 j = so j ∧ sh j = sh j := fun j hj => ⟨pk_un (by omega), rfl⟩
    unfold sk_sfe
    rw [pk_us, pk_us, sk_sf_up hM (by omega) hn (fun _ _ => ⟨rfl, rfl⟩) ag ⟨rfl, rfl, rfl, rfl⟩, sk_sf_up hM (by omega) hn (fun _ _ => ⟨rfl, rfl⟩) ag ⟨rfl, rfl, rfl, rfl⟩]
    rw [sk_sf_up hM (by omega) hn (fun _ _ => ⟨rfl, rfl⟩) ag2 ⟨rfl, rfl, rfl, rfl⟩] at q2
    exact ⟨q1, q2⟩
  have L : ∀ z1 : Int32, (¬ z1 = 0 ↔ sk_sf lab sec rdo sk sx sy sz so sh false s) → wpX_holdsIn (fun r_35 => (vp_in (nI s) 40 ∧ ∀ a : sk_F, a = upd sh (nI s).toNatClampNeg (vp_nar .boolean r_35) → post (nM, nN, lc, pc, pl, vs, es, lab, ek, ex, px, py, pz, ew, od, sec, rdo, sk, sx, sy, sz, sw, dp, upd so s z1, a, la, pa, vl, ps, pt, pr))) (nM, nN, lc, pc, pl, vs, es, lab, ek, ex, px, py, pz, ew, od, sec, rdo, sk, sx, sy, sz, sw, dp, upd so s z1, sh, la, pa, vl, ps, pt, pr) (nI s) 1 := by
    intro z1 q1
    exact sk_xhold (hd := true) hM hs hn (fun q => ⟨i, nm_r (e' := upd sh s 1) (by rw [c, sk_n1]) (K z1 1 q1 ⟨fun _ => q, fun _ => by decide⟩)⟩) (fun q => ⟨i, nm_r (e' := upd sh s 0) (by rw [c, sk_n0]) (K z1 0 q1 ⟨fun w => absurd rfl w, fun w => absurd w q⟩)⟩)
  unfold wpX_judgeStatement
  exact sk_xhold (hd := false) hM hs hn (fun q => ⟨i, nm_r (e' := upd so s 1) (by rw [c, sk_n1]) (L 1 ⟨fun _ => q, fun _ => by decide⟩)⟩) (fun q => ⟨i, nm_r (e' := upd so s 0) (by rw [c, sk_n0]) (L 0 ⟨fun w => absurd rfl w, fun w => absurd w q⟩)⟩)
end
