/-! 09: Y: one step of a run, kind by kind -/
section
variable {nM nN de tq : Int32} {M N lc pc b : Nat} {vs es lab ek ex ey ez px py pz ew od hid wld sec sk sx sy sz sw dp oS hS la pa wk aw fd dg st rl ch : sk_F}
theorem sk_ystart {post : SY → Prop} {s : Nat} {p0 r f : Int32} (e0 : p0 = nI s) (hf : vp_nar .boolean r = f) (hb : b < 31) (H : post (nM, nN, nI lc, nI pc, de, tq, nI (b + 1 + 1), ek, ex, ey, ez, ew, hid, wld, sk, sx, sy, sz, sw, dp, oS, hS, lab, vs, es, la, pa, wk, aw, fd, upd dg (b + 1) (nI s), upd st (b + 1) 0, upd rl (b + 1) f, ch)) : wpY_start post (nM, nN, nI lc, nI pc, de, tq, nI (b + 1), ek, ex, ey, ez, ew, hid, wld, sk, sx, sy, sz, sw, dp, oS, hS, lab, vs, es, la, pa, wk, aw, fd, dg, st, rl, ch) p0 r := by
  subst e0 hf
  have i : vp_in (nI (b + 1)) 32 := vp_in_nI (by omega) (by omega)
  have c := nI_clamp (show b + 1 < 2 ^ 31 by omega)
  unfold wpY_start
  dsimp only
  rw [c]
  exact ⟨i, nm_e ⟨i, nm_e ⟨i, nm_e (nm_r (nI_1 (b + 1)) H)⟩⟩⟩
theorem sk_a7 {x : Nat} (hx : x < 8) : nI x &&& 7 = nI x := by
  rw [pk_andN (by omega) 3 (by decide), Nat.mod_eq_of_lt (by omega)]
theorem sk_yp0 {post : SY → Prop} {s x p lc' : Nat} {r : Bool} {v p1 : Int32} {la' : sk_F} (hM : M ≤ 50) (HE : ∀ e, e < M → sk_node ek ex ey ez ew px py pz od e) (hs : s < 40) (hk : sk s = 0) (er : p1 = sk_bI r) (hx : x < 8) (h1 : sx s = nI x) (hp : p < M) (h2 : sy s = nI p) (hv : sk_EvY M ek ex ey ez ew vs es p lc la v lc' la')
    (H : ∀ (de' tq' : Int32) (wk' aw' fd' : sk_F), post (nM, nN, nI lc', nI pc, de', tq', nI b, ek, ex, ey, ez, ew, hid, wld, sk, sx, sy, sz, sw, dp, oS, hS, lab, if r then upd vs x v else vs, es, la', pa, wk', aw', fd', dg, st, rl, ch)) : wpY_plain post (nM, nN, nI lc, nI pc, de, tq, nI (b + 1), ek, ex, ey, ez, ew, hid, wld, sk, sx, sy, sz, sw, dp, oS, hS, lab, vs, es, la, pa, wk, aw, fd, dg, st, rl, ch) (nI s) p1 := by
  subst er
  have i : vp_in (nI s) 40 := vp_in_nI hs (by omega)
  have c := nI_clamp (show s < 2 ^ 31 by omega)
  refine ⟨i, nm_r (e' := 0) (by rw [c]; exact hk) (br_t rfl ⟨i, sk_ywork (by rw [c]; exact h2) hM HE hp hv (fun de' tq' wk' aw' fd' => ?_)⟩)⟩
  cases r with
  | false => exact br_t sk_t0 (nm_r (nI_pred b) (H _ _ _ _ _))
  | true =>
    refine br_f sk_t1 ⟨i, by rw [c, h1, sk_a7 hx]; exact vp_in_nI hx (by omega), nm_r (e' := upd vs x v) (by rw [c, h1, sk_a7 hx, nI_clamp (by omega)]) (nm_r (nI_pred b) (H _ _ _ _ _))⟩
theorem sk_yp1 {post : SY → Prop} {s a p q lc1 lc' : Nat} {r : Bool} {i v p1 : Int32} {la1 la' : sk_F} (hM : M ≤ 50) (HE : ∀ e, e < M → sk_node ek ex ey ez ew px py pz od e) (hs : s < 40) (hk : sk s = 1) (er : p1 = sk_bI r) (ha : a < 2) (h1 : sx s = nI a) (hp : p < M) (h2 : sy s = nI p) (hq : q < M) (h3 : sz s = nI q)
    (hv1 : sk_EvY M ek ex ey ez ew vs es p lc la i lc1 la1) (hv : sk_EvY M ek ex ey ez ew vs es q lc1 la1 v lc' la') (hlc : lc' < 2 ^ 30)
    (H : ∀ (de' tq' : Int32) (wk' aw' fd' : sk_F), post (nM, nN, nI (lc' + 1), nI pc, de', tq', nI b, ek, ex, ey, ez, ew, hid, wld, sk, sx, sy, sz, sw, dp, oS, hS, lab, vs, if r then upd es (sk_at (nI a) i).toNatClampNeg v else es, sk_put 200 lc' la' (32 + sk_at (nI a) i), pa, wk', aw', fd', dg, st, rl, ch)) : wpY_plain post (nM, nN, nI lc, nI pc, de, tq, nI (b + 1), ek, ex, ey, ez, ew, hid, wld, sk, sx, sy, sz, sw, dp, oS, hS, lab, vs, es, la, pa, wk, aw, fd, dg, st, rl, ch) (nI s) p1 := by
  subst er
  have i40 : vp_in (nI s) 40 := vp_in_nI hs (by omega)
  have c := nI_clamp (show s < 2 ^ 31 by omega)
  obtain ⟨j, hj, ej, ej2, ej3⟩ := sk_pl ha i
  refine ⟨i40, nm_r (e' := 1) (by rw [c]; exact hk) (br_f (by decide) (br_t rfl ⟨i40, sk_ywork (by rw [c]; exact h2) hM HE hp hv1 (fun de1 tq1 wk1 aw1 fd1 => nm_e ⟨i40, sk_ywork (by rw [c]; exact h3) hM HE hq hv (fun de' tq' wk' aw' fd' => ⟨i40, ?_⟩)⟩)⟩))⟩
  have e1 : 32 + 8 * sx (nI s).toNatClampNeg + (i &&& 7) = 32 + sk_at (nI a) i := by rw [c, h1, ej3 32]
  rw [e1]
  refine sk_yleak hlc ?_
  cases r with
  | false => exact br_t sk_t0 (nm_r (nI_pred b) (H _ _ _ _ _))
  | true =>
    have e2 : 8 * (sx (nI s).toNatClampNeg &&& 1) + (i &&& 7) = nI j := by rw [c, h1, ej2]
    exact br_f sk_t1 ⟨i40, by rw [e2]; exact vp_in_nI hj (by omega), nm_r (e' := upd es (sk_at (nI a) i).toNatClampNeg v) (by rw [e2, ej]) (nm_r (nI_pred b) (H _ _ _ _ _))⟩
theorem sk_yp6 {post : SY → Prop} {s p lc' : Nat} {v p1 : Int32} {la' : sk_F} (hM : M ≤ 50) (HE : ∀ e, e < M → sk_node ek ex ey ez ew px py pz od e) (hs : s < 40) (hk : sk s = 6) (hp : p < M) (h1 : sx s = nI p) (hv : sk_EvY M ek ex ey ez ew vs es p lc la v lc' la') (hpc : pc < 2 ^ 30)
    (H : ∀ (de' tq' : Int32) (wk' aw' fd' : sk_F), post (nM, nN, nI lc', nI (pc + 1), de', tq', nI b, ek, ex, ey, ez, ew, hid, wld, sk, sx, sy, sz, sw, dp, oS, hS, lab, vs, es, la', sk_put 20 pc pa v, wk', aw', fd', dg, st, rl, ch)) : wpY_plain post (nM, nN, nI lc, nI pc, de, tq, nI (b + 1), ek, ex, ey, ez, ew, hid, wld, sk, sx, sy, sz, sw, dp, oS, hS, lab, vs, es, la, pa, wk, aw, fd, dg, st, rl, ch) (nI s) p1 := by
  have i : vp_in (nI s) 40 := vp_in_nI hs (by omega)
  have c := nI_clamp (show s < 2 ^ 31 by omega)
  refine ⟨i, nm_r (e' := 6) (by rw [c]; exact hk) (br_f (by decide) (br_f (by decide) ⟨i, sk_ywork (by rw [c]; exact h1) hM HE hp hv (fun de' tq' wk' aw' fd' => ?_)⟩))⟩
  have H' := H de' tq' wk' aw' fd'
  refine pk_le 20 pc (fun h2 => ?_) (fun h2 => ?_)
  · rw [sk_put_ge h2] at H'
    exact nm_r (nI_1 pc) (nm_r (nI_pred b) H')
  · rw [sk_put_lt h2] at H'
    exact ⟨vp_in_nI h2 (by omega), nm_r (by rw [nI_clamp (by omega)]) (nm_r (nI_1 pc) (nm_r (nI_pred b) H'))⟩
theorem sk_ty0 {post : Int32 → SY → Prop} (hN : N ≤ 40) (hM : M ≤ 50) (HE : ∀ e, e < M → sk_node ek ex ey ez ew px py pz od e) (hsc : ∀ p, p < M → (hid p = 0 ↔ sec p = 0)) : sk_ry0 M N ek ex ey ez ew sk sx sy (fun n k b vs es lc la pc pa dg st rl ch => ∀ (de tq : Int32) (wk aw fd : sk_F), wY_run_44 post n (nI k) nM nN (nI lc) (nI pc) de tq (nI b) ek ex ey ez ew hid wld sk sx sy sz sw dp oS hS lab vs es la pa wk aw fd dg st rl ch) := by
  intro n k b vs es lc la pc pa dg st rl ch s g r x p v lc' la' hs hk hb hst hkk hx h1 hp h2 E H de tq wk aw fd
  have a1 : ¬ (60000 : Int32) ≤ nI k := nI_ge (b := 60000) hk (by decide)
  have a2 : ¬ nI (b + 1) ≤ 0 := nI_nle (by omega) (by omega)
  have c := nI_clamp (show s < 2 ^ 31 by omega)
  have i40 : vp_in (nI s) 40 := vp_in_nI (by omega) (by omega)
  have ib : vp_in (nI b) 32 := vp_in_nI (by omega) (by omega)
  have cb := nI_clamp (show b < 2 ^ 31 by omega)
  have er : rl (nI b).toNatClampNeg = sk_bI r := by rw [cb]; exact hst.2.2
  have eb : vp_nar .boolean (rl (nI b).toNatClampNeg) = sk_bI r := by rw [er]; exact sk_nb r
  have ed : dg (nI b).toNatClampNeg = nI s := by rw [cb]; exact hst.1
  refine br_f a1 (br_f a2 (nm_r (nI_pred b) ⟨ib, nm_r (e' := nI s) ed ⟨ib, nm_r (e' := nI g) (by rw [cb]; exact hst.2.1) ⟨ib, ib, nm_r (e' := upd st b (nI (g + 1))) (by rw [cb, hst.2.1, nI_1]) ⟨i40, nm_r (e' := 0) (by rw [c]; exact hkk) ?_⟩⟩⟩⟩))
  exact br_t (by decide) ⟨ib, sk_yp0 hM HE (by omega) hkk er hx h1 hp h2 E (fun de' tq' wk' aw' fd' => nm_r (nI_1 k) (H _ _ _ _ (fun j hj => ⟨rfl, pk_un (by omega), rfl, rfl⟩) _ _ _ _ _))⟩
theorem sk_ty1 {post : Int32 → SY → Prop} (hN : N ≤ 40) (hM : M ≤ 50) (HE : ∀ e, e < M → sk_node ek ex ey ez ew px py pz od e) (hsc : ∀ p, p < M → (hid p = 0 ↔ sec p = 0)) : sk_ry1 M N ek ex ey ez ew sk sx sy sz (fun n k b vs es lc la pc pa dg st rl ch => ∀ (de tq : Int32) (wk aw fd : sk_F), wY_run_44 post n (nI k) nM nN (nI lc) (nI pc) de tq (nI b) ek ex ey ez ew hid wld sk sx sy sz sw dp oS hS lab vs es la pa wk aw fd dg st rl ch) := by
  intro n k b vs es lc la pc pa dg st rl ch s g r a p q i lc1 la1 v lc' la' hs hk hb hst hkk ha h1 hp h2 hq h3 E1 E hlc H de tq wk aw fd
  have a1 : ¬ (60000 : Int32) ≤ nI k := nI_ge (b := 60000) hk (by decide)
  have a2 : ¬ nI (b + 1) ≤ 0 := nI_nle (by omega) (by omega)
  have c := nI_clamp (show s < 2 ^ 31 by omega)
  have i40 : vp_in (nI s) 40 := vp_in_nI (by omega) (by omega)
  have ib : vp_in (nI b) 32 := vp_in_nI (by omega) (by omega)
  have cb := nI_clamp (show b < 2 ^ 31 by omega)
  have er : rl (nI b).toNatClampNeg = sk_bI r := by rw [cb]; exact hst.2.2
  have eb : vp_nar .boolean (rl (nI b).toNatClampNeg) = sk_bI r := by rw [er]; exact sk_nb r
  have ed : dg (nI b).toNatClampNeg = nI s := by rw [cb]; exact hst.1
  refine br_f a1 (br_f a2 (nm_r (nI_pred b) ⟨ib, nm_r (e' := nI s) ed ⟨ib, nm_r (e' := nI g) (by rw [cb]; exact hst.2.1) ⟨ib, ib, nm_r (e' := upd st b (nI (g + 1))) (by rw [cb, hst.2.1, nI_1]) ⟨i40, nm_r (e' := 1) (by rw [c]; exact hkk) ?_⟩⟩⟩⟩))
  exact br_t (by decide) ⟨ib, sk_yp1 hM HE (by omega) hkk er ha h1 hp h2 hq h3 E1 E hlc (fun de' tq' wk' aw' fd' => nm_r (nI_1 k) (H _ _ _ _ (fun j hj => ⟨rfl, pk_un (by omega), rfl, rfl⟩) _ _ _ _ _))⟩
theorem sk_ty6 {post : Int32 → SY → Prop} (hN : N ≤ 40) (hM : M ≤ 50) (HE : ∀ e, e < M → sk_node ek ex ey ez ew px py pz od e) (hsc : ∀ p, p < M → (hid p = 0 ↔ sec p = 0)) : sk_ry6 M N ek ex ey ez ew sk sx (fun n k b vs es lc la pc pa dg st rl ch => ∀ (de tq : Int32) (wk aw fd : sk_F), wY_run_44 post n (nI k) nM nN (nI lc) (nI pc) de tq (nI b) ek ex ey ez ew hid wld sk sx sy sz sw dp oS hS lab vs es la pa wk aw fd dg st rl ch) := by
  intro n k b vs es lc la pc pa dg st rl ch s g r p v lc' la' hs hk hb hst hkk hp h1 E hpc H de tq wk aw fd
  have a1 : ¬ (60000 : Int32) ≤ nI k := nI_ge (b := 60000) hk (by decide)
  have a2 : ¬ nI (b + 1) ≤ 0 := nI_nle (by omega) (by omega)
  have c := nI_clamp (show s < 2 ^ 31 by omega)
  have i40 : vp_in (nI s) 40 := vp_in_nI (by omega) (by omega)
  have ib : vp_in (nI b) 32 := vp_in_nI (by omega) (by omega)
  have cb := nI_clamp (show b < 2 ^ 31 by omega)
  have er : rl (nI b).toNatClampNeg = sk_bI r := by rw [cb]; exact hst.2.2
  have eb : vp_nar .boolean (rl (nI b).toNatClampNeg) = sk_bI r := by rw [er]; exact sk_nb r
  have ed : dg (nI b).toNatClampNeg = nI s := by rw [cb]; exact hst.1
  refine br_f a1 (br_f a2 (nm_r (nI_pred b) ⟨ib, nm_r (e' := nI s) ed ⟨ib, nm_r (e' := nI g) (by rw [cb]; exact hst.2.1) ⟨ib, ib, nm_r (e' := upd st b (nI (g + 1))) (by rw [cb, hst.2.1, nI_1]) ⟨i40, nm_r (e' := 6) (by rw [c]; exact hkk) ?_⟩⟩⟩⟩))
  exact br_f (by decide) (br_t rfl ⟨ib, sk_yp6 hM HE (by omega) hkk hp h1 E hpc (fun de' tq' wk' aw' fd' => nm_r (nI_1 k) (H _ _ _ _ (fun j hj => ⟨rfl, pk_un (by omega), rfl, rfl⟩) _ _ _ _ _))⟩)
theorem sk_ty2a {post : Int32 → SY → Prop} (hN : N ≤ 40) (hM : M ≤ 50) (HE : ∀ e, e < M → sk_node ek ex ey ez ew px py pz od e) (hsc : ∀ p, p < M → (hid p = 0 ↔ sec p = 0)) : sk_ry2a N sk sx (fun n k b vs es lc la pc pa dg st rl ch => ∀ (de tq : Int32) (wk aw fd : sk_F), wY_run_44 post n (nI k) nM nN (nI lc) (nI pc) de tq (nI b) ek ex ey ez ew hid wld sk sx sy sz sw dp oS hS lab vs es la pa wk aw fd dg st rl ch) := by
  intro n k b vs es lc la pc pa dg st rl ch s g r p hs hk hb hst hkk hp h1 hg H de tq wk aw fd
  have a1 : ¬ (60000 : Int32) ≤ nI k := nI_ge (b := 60000) hk (by decide)
  have a2 : ¬ nI (b + 1) ≤ 0 := nI_nle (by omega) (by omega)
  have c := nI_clamp (show s < 2 ^ 31 by omega)
  have i40 : vp_in (nI s) 40 := vp_in_nI (by omega) (by omega)
  have ib : vp_in (nI b) 32 := vp_in_nI (by omega) (by omega)
  have cb := nI_clamp (show b < 2 ^ 31 by omega)
  have er : rl (nI b).toNatClampNeg = sk_bI r := by rw [cb]; exact hst.2.2
  have eb : vp_nar .boolean (rl (nI b).toNatClampNeg) = sk_bI r := by rw [er]; exact sk_nb r
  have ed : dg (nI b).toNatClampNeg = nI s := by rw [cb]; exact hst.1
  subst hg
  refine br_f a1 (br_f a2 (nm_r (nI_pred b) ⟨ib, nm_r (e' := nI s) ed ⟨ib, nm_r (e' := nI 0) (by rw [cb]; exact hst.2.1) ⟨ib, ib, nm_r (e' := upd st b (nI (0 + 1))) (by rw [cb, hst.2.1, nI_1]) ⟨i40, nm_r (e' := 2) (by rw [c]; exact hkk) ?_⟩⟩⟩⟩))
  exact br_f (by decide) (br_f (by decide) (br_t rfl (br_f (by decide) (br_t rfl ⟨i40, ib, sk_ystart (by rw [c]; exact h1) eb hb (nm_r (nI_1 k) (H _ _ _ _ (fun j hj => ⟨pk_un (by omega), (pk_un (by omega)).trans (pk_un (by omega)), pk_un (by omega), rfl⟩) ⟨(pk_un (by omega)).trans hst.1, (pk_un (by omega)).trans pk_us, (pk_un (by omega)).trans hst.2.2⟩ ⟨pk_us, pk_us, pk_us⟩ _ _ _ _ _))⟩))))
theorem sk_ty2b {post : Int32 → SY → Prop} (hN : N ≤ 40) (hM : M ≤ 50) (HE : ∀ e, e < M → sk_node ek ex ey ez ew px py pz od e) (hsc : ∀ p, p < M → (hid p = 0 ↔ sec p = 0)) : sk_ry2b N sk sy (fun n k b vs es lc la pc pa dg st rl ch => ∀ (de tq : Int32) (wk aw fd : sk_F), wY_run_44 post n (nI k) nM nN (nI lc) (nI pc) de tq (nI b) ek ex ey ez ew hid wld sk sx sy sz sw dp oS hS lab vs es la pa wk aw fd dg st rl ch) := by
  intro n k b vs es lc la pc pa dg st rl ch s g r q hs hk hb hst hkk hp h1 hg H de tq wk aw fd
  have a1 : ¬ (60000 : Int32) ≤ nI k := nI_ge (b := 60000) hk (by decide)
  have a2 : ¬ nI (b + 1) ≤ 0 := nI_nle (by omega) (by omega)
  have c := nI_clamp (show s < 2 ^ 31 by omega)
  have i40 : vp_in (nI s) 40 := vp_in_nI (by omega) (by omega)
  have ib : vp_in (nI b) 32 := vp_in_nI (by omega) (by omega)
  have cb := nI_clamp (show b < 2 ^ 31 by omega)
  have er : rl (nI b).toNatClampNeg = sk_bI r := by rw [cb]; exact hst.2.2
  have eb : vp_nar .boolean (rl (nI b).toNatClampNeg) = sk_bI r := by rw [er]; exact sk_nb r
  have ed : dg (nI b).toNatClampNeg = nI s := by rw [cb]; exact hst.1
  subst hg
  refine br_f a1 (br_f a2 (nm_r (nI_pred b) ⟨ib, nm_r (e' := nI s) ed ⟨ib, nm_r (e' := nI 1) (by rw [cb]; exact hst.2.1) ⟨ib, ib, nm_r (e' := upd st b (nI (1 + 1))) (by rw [cb, hst.2.1, nI_1]) ⟨i40, nm_r (e' := 2) (by rw [c]; exact hkk) ?_⟩⟩⟩⟩))
  exact br_f (by decide) (br_f (by decide) (br_t rfl (br_f (by decide) (br_f (by decide) ⟨i40, ib, sk_ystart (by rw [c]; exact h1) eb hb (nm_r (nI_1 k) (H _ _ _ _ (fun j hj => ⟨pk_un (by omega), (pk_un (by omega)).trans (pk_un (by omega)), pk_un (by omega), rfl⟩) ⟨(pk_un (by omega)).trans hst.1, (pk_un (by omega)).trans pk_us, (pk_un (by omega)).trans hst.2.2⟩ ⟨pk_us, pk_us, pk_us⟩ _ _ _ _ _))⟩))))
theorem sk_ty2c {post : Int32 → SY → Prop} (hN : N ≤ 40) (hM : M ≤ 50) (HE : ∀ e, e < M → sk_node ek ex ey ez ew px py pz od e) (hsc : ∀ p, p < M → (hid p = 0 ↔ sec p = 0)) : sk_ry2c N sk (fun n k b vs es lc la pc pa dg st rl ch => ∀ (de tq : Int32) (wk aw fd : sk_F), wY_run_44 post n (nI k) nM nN (nI lc) (nI pc) de tq (nI b) ek ex ey ez ew hid wld sk sx sy sz sw dp oS hS lab vs es la pa wk aw fd dg st rl ch) := by
  intro n k b vs es lc la pc pa dg st rl ch s g r hs hk hb hst hkk hg H de tq wk aw fd
  have a1 : ¬ (60000 : Int32) ≤ nI k := nI_ge (b := 60000) hk (by decide)
  have a2 : ¬ nI (b + 1) ≤ 0 := nI_nle (by omega) (by omega)
  have c := nI_clamp (show s < 2 ^ 31 by omega)
  have i40 : vp_in (nI s) 40 := vp_in_nI (by omega) (by omega)
  have ib : vp_in (nI b) 32 := vp_in_nI (by omega) (by omega)
  have cb := nI_clamp (show b < 2 ^ 31 by omega)
  have er : rl (nI b).toNatClampNeg = sk_bI r := by rw [cb]; exact hst.2.2
  have eb : vp_nar .boolean (rl (nI b).toNatClampNeg) = sk_bI r := by rw [er]; exact sk_nb r
  have ed : dg (nI b).toNatClampNeg = nI s := by rw [cb]; exact hst.1
  subst hg
  refine br_f a1 (br_f a2 (nm_r (nI_pred b) ⟨ib, nm_r (e' := nI s) ed ⟨ib, nm_r (e' := nI 2) (by rw [cb]; exact hst.2.1) ⟨ib, ib, nm_r (e' := upd st b (nI (2 + 1))) (by rw [cb, hst.2.1, nI_1]) ⟨i40, nm_r (e' := 2) (by rw [c]; exact hkk) ?_⟩⟩⟩⟩))
  exact br_f (by decide) (br_f (by decide) (br_t rfl (br_t rfl (nm_r (nI_pred b) (nm_r (nI_1 k) (H _ _ _ _ (fun j hj => ⟨rfl, pk_un (by omega), rfl, rfl⟩) _ _ _ _ _))))))
theorem sk_ty3a {post : Int32 → SY → Prop} (hN : N ≤ 40) (hM : M ≤ 50) (HE : ∀ e, e < M → sk_node ek ex ey ez ew px py pz od e) (hsc : ∀ p, p < M → (hid p = 0 ↔ sec p = 0)) : sk_ry3a M N ek ex ey ez ew sec sk sx sy (fun n k b vs es lc la pc pa dg st rl ch => ∀ (de tq : Int32) (wk aw fd : sk_F), wY_run_44 post n (nI k) nM nN (nI lc) (nI pc) de tq (nI b) ek ex ey ez ew hid wld sk sx sy sz sw dp oS hS lab vs es la pa wk aw fd dg st rl ch) := by
  intro n k b vs es lc la pc pa dg st rl ch s g r p q v lc' la' hs hk hb hst hkk hg hp h1 hq h2 E hsec H de tq wk aw fd
  have a1 : ¬ (60000 : Int32) ≤ nI k := nI_ge (b := 60000) hk (by decide)
  have a2 : ¬ nI (b + 1) ≤ 0 := nI_nle (by omega) (by omega)
  have c := nI_clamp (show s < 2 ^ 31 by omega)
  have i40 : vp_in (nI s) 40 := vp_in_nI (by omega) (by omega)
  have ib : vp_in (nI b) 32 := vp_in_nI (by omega) (by omega)
  have cb := nI_clamp (show b < 2 ^ 31 by omega)
  have er : rl (nI b).toNatClampNeg = sk_bI r := by rw [cb]; exact hst.2.2
  have ed : dg (nI b).toNatClampNeg = nI s := by rw [cb]; exact hst.1
  subst hg
  have ip : vp_in (nI p) 50 := vp_in_nI (by omega) (by omega)
  have cp := nI_clamp (show p < 2 ^ 31 by omega)
  have ep : sx (nI s).toNatClampNeg = nI p := by rw [c]; exact h1
  have hh : ¬ hid p = 0 := fun z => hsec ((hsc p hp).mp z)
  refine br_f a1 (br_f a2 (nm_r (nI_pred b) ⟨ib, nm_r (e' := nI s) ed ⟨ib, nm_r (e' := nI 0) (by rw [cb]; exact hst.2.1) ⟨ib, ib, nm_r (e' := upd st b (nI (0 + 1))) (by rw [cb, hst.2.1, nI_1]) ⟨i40, nm_r (e' := 3) (by rw [c]; exact hkk) ?_⟩⟩⟩⟩))
  refine br_f (by decide) (br_f (by decide) (br_f (by decide) (br_t rfl ⟨ib, nm_r (e' := nI s) ed ⟨i40, by rw [ep]; exact ip, nm_r (e' := hid p) (by rw [ep, cp]) (br_t rfl ⟨i40, sk_ywork ep hM HE hp E (fun de' tq' wk' aw' fd' => ?_)⟩)⟩⟩)))
  unfold wY_choice_51 wY_choice_68 wY_choice_71 wY_choice_85 wY_choice_114 wY_choice_115
  by_cases h0 : v = 0
  · have d2 : decide (¬ v = 0) = false := decide_eq_false (fun z => z h0)
    rw [d2] at H
    refine br_t h0 ⟨ib, (nm_r (e' := upd ch b (sk_bI false)) (by rw [cb]; rfl) (br_f hh (br_f hh ?_)))⟩
    cases r with
    | false => exact ⟨i40, ib, br_t (er.trans sk_t0) (sk_ystart (by rw [c]; exact h2) rfl hb (nm_r (nI_1 k) (H _ _ _ _ (fun j hj => ⟨pk_un (by omega), (pk_un (by omega)).trans (pk_un (by omega)), pk_un (by omega), pk_un (by omega)⟩) ⟨(pk_un (by omega)).trans hst.1, (pk_un (by omega)).trans pk_us, (pk_un (by omega)).trans hst.2.2⟩ pk_us ⟨pk_us, pk_us, pk_us⟩ _ _ _ _ _)))⟩
    | true => exact ⟨i40, ib, br_f (fun z => sk_t1 (er.symm.trans z)) ⟨ib, br_t (by rw [cb]; exact pk_us) (sk_ystart (by rw [c]; exact h2) rfl hb (nm_r (nI_1 k) (H _ _ _ _ (fun j hj => ⟨pk_un (by omega), (pk_un (by omega)).trans (pk_un (by omega)), pk_un (by omega), pk_un (by omega)⟩) ⟨(pk_un (by omega)).trans hst.1, (pk_un (by omega)).trans pk_us, (pk_un (by omega)).trans hst.2.2⟩ pk_us ⟨pk_us, pk_us, pk_us⟩ _ _ _ _ _)))⟩⟩
  · have d2 : decide (¬ v = 0) = true := decide_eq_true h0
    rw [d2] at H
    refine br_f h0 ⟨ib, (nm_r (e' := upd ch b (sk_bI true)) (by rw [cb]; rfl) (br_f hh (br_f hh ?_)))⟩
    cases r with
    | false => exact ⟨i40, ib, br_t (er.trans sk_t0) (sk_ystart (by rw [c]; exact h2) rfl hb (nm_r (nI_1 k) (H _ _ _ _ (fun j hj => ⟨pk_un (by omega), (pk_un (by omega)).trans (pk_un (by omega)), pk_un (by omega), pk_un (by omega)⟩) ⟨(pk_un (by omega)).trans hst.1, (pk_un (by omega)).trans pk_us, (pk_un (by omega)).trans hst.2.2⟩ pk_us ⟨pk_us, pk_us, pk_us⟩ _ _ _ _ _)))⟩
    | true => exact ⟨i40, ib, br_f (fun z => sk_t1 (er.symm.trans z)) ⟨ib, br_f (by rw [cb, pk_us]; exact sk_t1) (sk_ystart (by rw [c]; exact h2) rfl hb (nm_r (nI_1 k) (H _ _ _ _ (fun j hj => ⟨pk_un (by omega), (pk_un (by omega)).trans (pk_un (by omega)), pk_un (by omega), pk_un (by omega)⟩) ⟨(pk_un (by omega)).trans hst.1, (pk_un (by omega)).trans pk_us, (pk_un (by omega)).trans hst.2.2⟩ pk_us ⟨pk_us, pk_us, pk_us⟩ _ _ _ _ _)))⟩⟩
theorem sk_ty3b {post : Int32 → SY → Prop} (hN : N ≤ 40) (hM : M ≤ 50) (HE : ∀ e, e < M → sk_node ek ex ey ez ew px py pz od e) (hsc : ∀ p, p < M → (hid p = 0 ↔ sec p = 0)) : sk_ry3b M N ek ex ey ez ew sec sk sx sy (fun n k b vs es lc la pc pa dg st rl ch => ∀ (de tq : Int32) (wk aw fd : sk_F), wY_run_44 post n (nI k) nM nN (nI lc) (nI pc) de tq (nI b) ek ex ey ez ew hid wld sk sx sy sz sw dp oS hS lab vs es la pa wk aw fd dg st rl ch) := by
  intro n k b vs es lc la pc pa dg st rl ch s g r p q v lc' la' hs hk hb hst hkk hg hp h1 hq h2 E hsec h0 hlc H de tq wk aw fd
  have a1 : ¬ (60000 : Int32) ≤ nI k := nI_ge (b := 60000) hk (by decide)
  have a2 : ¬ nI (b + 1) ≤ 0 := nI_nle (by omega) (by omega)
  have c := nI_clamp (show s < 2 ^ 31 by omega)
  have i40 : vp_in (nI s) 40 := vp_in_nI (by omega) (by omega)
  have ib : vp_in (nI b) 32 := vp_in_nI (by omega) (by omega)
  have cb := nI_clamp (show b < 2 ^ 31 by omega)
  have er : rl (nI b).toNatClampNeg = sk_bI r := by rw [cb]; exact hst.2.2
  have ed : dg (nI b).toNatClampNeg = nI s := by rw [cb]; exact hst.1
  subst hg
  have ip : vp_in (nI p) 50 := vp_in_nI (by omega) (by omega)
  have cp := nI_clamp (show p < 2 ^ 31 by omega)
  have ep : sx (nI s).toNatClampNeg = nI p := by rw [c]; exact h1
  have hh : hid p = 0 := (hsc p hp).mpr hsec
  refine br_f a1 (br_f a2 (nm_r (nI_pred b) ⟨ib, nm_r (e' := nI s) ed ⟨ib, nm_r (e' := nI 0) (by rw [cb]; exact hst.2.1) ⟨ib, ib, nm_r (e' := upd st b (nI (0 + 1))) (by rw [cb, hst.2.1, nI_1]) ⟨i40, nm_r (e' := 3) (by rw [c]; exact hkk) ?_⟩⟩⟩⟩))
  refine br_f (by decide) (br_f (by decide) (br_f (by decide) (br_t rfl ⟨ib, nm_r (e' := nI s) ed ⟨i40, by rw [ep]; exact ip, nm_r (e' := hid p) (by rw [ep, cp]) (br_t rfl ⟨i40, sk_ywork ep hM HE hp E (fun de' tq' wk' aw' fd' => ?_)⟩)⟩⟩)))
  unfold wY_choice_51 wY_choice_68 wY_choice_71 wY_choice_85 wY_choice_114 wY_choice_115
  refine br_f h0 ⟨ib, (nm_r (e' := upd ch b (sk_bI true)) (by rw [cb]; rfl) (br_t hh (br_f h0 (sk_yleak hlc (br_t hh ⟨ib, br_f (by rw [cb, pk_us]; exact sk_t1) ?_⟩)))))⟩
  cases r with
  | false => exact ⟨i40, ib, br_t (er.trans sk_t0) (sk_ystart (by rw [c]; exact h2) rfl hb (nm_r (nI_1 k) (H _ _ _ _ (fun j hj => ⟨pk_un (by omega), (pk_un (by omega)).trans (pk_un (by omega)), pk_un (by omega), pk_un (by omega)⟩) ⟨(pk_un (by omega)).trans hst.1, (pk_un (by omega)).trans pk_us, (pk_un (by omega)).trans hst.2.2⟩ pk_us ⟨pk_us, pk_us, pk_us⟩ _ _ _ _ _)))⟩
  | true => exact ⟨i40, ib, br_f (fun z => sk_t1 (er.symm.trans z)) ⟨ib, br_f (by rw [cb, pk_us]; exact sk_t1) (sk_ystart (by rw [c]; exact h2) rfl hb (nm_r (nI_1 k) (H _ _ _ _ (fun j hj => ⟨pk_un (by omega), (pk_un (by omega)).trans (pk_un (by omega)), pk_un (by omega), pk_un (by omega)⟩) ⟨(pk_un (by omega)).trans hst.1, (pk_un (by omega)).trans pk_us, (pk_un (by omega)).trans hst.2.2⟩ pk_us ⟨pk_us, pk_us, pk_us⟩ _ _ _ _ _)))⟩⟩
theorem sk_ty3c {post : Int32 → SY → Prop} (hN : N ≤ 40) (hM : M ≤ 50) (HE : ∀ e, e < M → sk_node ek ex ey ez ew px py pz od e) (hsc : ∀ p, p < M → (hid p = 0 ↔ sec p = 0)) : sk_ry3c M N ek ex ey ez ew sec sk sx sy (fun n k b vs es lc la pc pa dg st rl ch => ∀ (de tq : Int32) (wk aw fd : sk_F), wY_run_44 post n (nI k) nM nN (nI lc) (nI pc) de tq (nI b) ek ex ey ez ew hid wld sk sx sy sz sw dp oS hS lab vs es la pa wk aw fd dg st rl ch) := by
  intro n k b vs es lc la pc pa dg st rl ch s g r p q v lc' la' hs hk hb hst hkk hg hp h1 hq h2 E hsec h0 hlc H de tq wk aw fd
  have a1 : ¬ (60000 : Int32) ≤ nI k := nI_ge (b := 60000) hk (by decide)
  have a2 : ¬ nI (b + 1) ≤ 0 := nI_nle (by omega) (by omega)
  have c := nI_clamp (show s < 2 ^ 31 by omega)
  have i40 : vp_in (nI s) 40 := vp_in_nI (by omega) (by omega)
  have ib : vp_in (nI b) 32 := vp_in_nI (by omega) (by omega)
  have cb := nI_clamp (show b < 2 ^ 31 by omega)
  have ed : dg (nI b).toNatClampNeg = nI s := by rw [cb]; exact hst.1
  subst hg
  have ip : vp_in (nI p) 50 := vp_in_nI (by omega) (by omega)
  have cp := nI_clamp (show p < 2 ^ 31 by omega)
  have ep : sx (nI s).toNatClampNeg = nI p := by rw [c]; exact h1
  have hh : hid p = 0 := (hsc p hp).mpr hsec
  refine br_f a1 (br_f a2 (nm_r (nI_pred b) ⟨ib, nm_r (e' := nI s) ed ⟨ib, nm_r (e' := nI 0) (by rw [cb]; exact hst.2.1) ⟨ib, ib, nm_r (e' := upd st b (nI (0 + 1))) (by rw [cb, hst.2.1, nI_1]) ⟨i40, nm_r (e' := 3) (by rw [c]; exact hkk) ?_⟩⟩⟩⟩))
  refine br_f (by decide) (br_f (by decide) (br_f (by decide) (br_t rfl ⟨ib, nm_r (e' := nI s) ed ⟨i40, by rw [ep]; exact ip, nm_r (e' := hid p) (by rw [ep, cp]) (br_t rfl ⟨i40, sk_ywork ep hM HE hp E (fun de' tq' wk' aw' fd' => ?_)⟩)⟩⟩)))
  unfold wY_choice_51 wY_choice_68 wY_choice_71 wY_choice_85 wY_choice_114 wY_choice_115
  refine br_t h0 ⟨ib, (nm_r (e' := upd ch b (sk_bI false)) (by rw [cb]; rfl) (br_t hh (br_t h0 (sk_yleak hlc (br_t hh ⟨ib, br_t (by rw [cb]; exact pk_us) ?_⟩)))))⟩
  exact nm_r (nI_1 k) (H _ _ _ _ (fun j hj => ⟨rfl, pk_un (by omega), rfl, pk_un (by omega)⟩) ⟨hst.1, pk_us, hst.2.2⟩ pk_us _ _ _ _ _)
theorem sk_ty3d {post : Int32 → SY → Prop} (hN : N ≤ 40) (hM : M ≤ 50) (HE : ∀ e, e < M → sk_node ek ex ey ez ew px py pz od e) (hsc : ∀ p, p < M → (hid p = 0 ↔ sec p = 0)) : sk_ry3d M N sec sk sx sz (fun n k b vs es lc la pc pa dg st rl ch => ∀ (de tq : Int32) (wk aw fd : sk_F), wY_run_44 post n (nI k) nM nN (nI lc) (nI pc) de tq (nI b) ek ex ey ez ew hid wld sk sx sy sz sw dp oS hS lab vs es la pa wk aw fd dg st rl ch) := by
  intro n k b vs es lc la pc pa dg st rl ch s g r p z tk hs hk hb hst hkk hg hp h1 hsec hzN hz hch H de tq wk aw fd
  have a1 : ¬ (60000 : Int32) ≤ nI k := nI_ge (b := 60000) hk (by decide)
  have a2 : ¬ nI (b + 1) ≤ 0 := nI_nle (by omega) (by omega)
  have c := nI_clamp (show s < 2 ^ 31 by omega)
  have i40 : vp_in (nI s) 40 := vp_in_nI (by omega) (by omega)
  have ib : vp_in (nI b) 32 := vp_in_nI (by omega) (by omega)
  have cb := nI_clamp (show b < 2 ^ 31 by omega)
  have er : rl (nI b).toNatClampNeg = sk_bI r := by rw [cb]; exact hst.2.2
  have ed : dg (nI b).toNatClampNeg = nI s := by rw [cb]; exact hst.1
  subst hg
  have ip : vp_in (nI p) 50 := vp_in_nI (by omega) (by omega)
  have cp := nI_clamp (show p < 2 ^ 31 by omega)
  have ep : sx (nI s).toNatClampNeg = nI p := by rw [c]; exact h1
  have hh : ¬ hid p = 0 := fun z => hsec ((hsc p hp).mp z)
  have ec : ch (nI b).toNatClampNeg = sk_bI tk := by rw [cb]; exact hch
  have hz0 : ¬ sz (nI s).toNatClampNeg < 0 := by rw [c, hz]; exact nI_pos (by omega)
  refine br_f a1 (br_f a2 (nm_r (nI_pred b) ⟨ib, nm_r (e' := nI s) ed ⟨ib, nm_r (e' := nI 1) (by rw [cb]; exact hst.2.1) ⟨ib, ib, nm_r (e' := upd st b (nI (1 + 1))) (by rw [cb, hst.2.1, nI_1]) ⟨i40, nm_r (e' := 3) (by rw [c]; exact hkk) ?_⟩⟩⟩⟩))
  refine br_f (by decide) (br_f (by decide) (br_f (by decide) (br_t rfl ⟨ib, nm_r (e' := nI s) ed ⟨i40, by rw [ep]; exact ip, nm_r (e' := hid p) (by rw [ep, cp]) (br_f (by decide) (br_t rfl ⟨i40, br_f hz0 (br_f hh ?_)⟩))⟩⟩)))
  unfold wY_choice_149 wY_choice_178 wY_choice_179
  cases r with
  | false => exact ⟨i40, ib, br_t (er.trans sk_t0) (sk_ystart (by rw [c]; exact hz) rfl hb (nm_r (nI_1 k) (H _ _ _ _ (fun j hj => ⟨pk_un (by omega), (pk_un (by omega)).trans (pk_un (by omega)), pk_un (by omega), rfl⟩) ⟨(pk_un (by omega)).trans hst.1, (pk_un (by omega)).trans pk_us, (pk_un (by omega)).trans hst.2.2⟩ ⟨pk_us, pk_us, pk_us⟩ _ _ _ _ _)))⟩
  | true =>
    cases tk with
    | false => exact ⟨i40, ib, br_f (fun z => sk_t1 (er.symm.trans z)) ⟨ib, br_t (ec.trans sk_t0) (sk_ystart (by rw [c]; exact hz) rfl hb (nm_r (nI_1 k) (H _ _ _ _ (fun j hj => ⟨pk_un (by omega), (pk_un (by omega)).trans (pk_un (by omega)), pk_un (by omega), rfl⟩) ⟨(pk_un (by omega)).trans hst.1, (pk_un (by omega)).trans pk_us, (pk_un (by omega)).trans hst.2.2⟩ ⟨pk_us, pk_us, pk_us⟩ _ _ _ _ _)))⟩⟩
    | true => exact ⟨i40, ib, br_f (fun z => sk_t1 (er.symm.trans z)) ⟨ib, br_f (fun z => sk_t1 (ec.symm.trans z)) (sk_ystart (by rw [c]; exact hz) rfl hb (nm_r (nI_1 k) (H _ _ _ _ (fun j hj => ⟨pk_un (by omega), (pk_un (by omega)).trans (pk_un (by omega)), pk_un (by omega), rfl⟩) ⟨(pk_un (by omega)).trans hst.1, (pk_un (by omega)).trans pk_us, (pk_un (by omega)).trans hst.2.2⟩ ⟨pk_us, pk_us, pk_us⟩ _ _ _ _ _)))⟩⟩
theorem sk_ty3e {post : Int32 → SY → Prop} (hN : N ≤ 40) (hM : M ≤ 50) (HE : ∀ e, e < M → sk_node ek ex ey ez ew px py pz od e) (hsc : ∀ p, p < M → (hid p = 0 ↔ sec p = 0)) : sk_ry3e M N sec sk sx sz (fun n k b vs es lc la pc pa dg st rl ch => ∀ (de tq : Int32) (wk aw fd : sk_F), wY_run_44 post n (nI k) nM nN (nI lc) (nI pc) de tq (nI b) ek ex ey ez ew hid wld sk sx sy sz sw dp oS hS lab vs es la pa wk aw fd dg st rl ch) := by
  intro n k b vs es lc la pc pa dg st rl ch s g r p z hs hk hb hst hkk hg hp h1 hsec hzN hz hch H de tq wk aw fd
  have a1 : ¬ (60000 : Int32) ≤ nI k := nI_ge (b := 60000) hk (by decide)
  have a2 : ¬ nI (b + 1) ≤ 0 := nI_nle (by omega) (by omega)
  have c := nI_clamp (show s < 2 ^ 31 by omega)
  have i40 : vp_in (nI s) 40 := vp_in_nI (by omega) (by omega)
  have ib : vp_in (nI b) 32 := vp_in_nI (by omega) (by omega)
  have cb := nI_clamp (show b < 2 ^ 31 by omega)
  have er : rl (nI b).toNatClampNeg = sk_bI r := by rw [cb]; exact hst.2.2
  have ed : dg (nI b).toNatClampNeg = nI s := by rw [cb]; exact hst.1
  subst hg
  have ip : vp_in (nI p) 50 := vp_in_nI (by omega) (by omega)
  have cp := nI_clamp (show p < 2 ^ 31 by omega)
  have ep : sx (nI s).toNatClampNeg = nI p := by rw [c]; exact h1
  have hh : hid p = 0 := (hsc p hp).mpr hsec
  have ec : ch (nI b).toNatClampNeg = sk_bI false := by rw [cb]; exact hch
  have hz0 : ¬ sz (nI s).toNatClampNeg < 0 := by rw [c, hz]; exact nI_pos (by omega)
  refine br_f a1 (br_f a2 (nm_r (nI_pred b) ⟨ib, nm_r (e' := nI s) ed ⟨ib, nm_r (e' := nI 1) (by rw [cb]; exact hst.2.1) ⟨ib, ib, nm_r (e' := upd st b (nI (1 + 1))) (by rw [cb, hst.2.1, nI_1]) ⟨i40, nm_r (e' := 3) (by rw [c]; exact hkk) ?_⟩⟩⟩⟩))
  refine br_f (by decide) (br_f (by decide) (br_f (by decide) (br_t rfl ⟨ib, nm_r (e' := nI s) ed ⟨i40, by rw [ep]; exact ip, nm_r (e' := hid p) (by rw [ep, cp]) (br_f (by decide) (br_t rfl ⟨i40, br_f hz0 (br_t hh ⟨ib, br_t (ec.trans sk_t0) ?_⟩)⟩))⟩⟩)))
  unfold wY_choice_149 wY_choice_178 wY_choice_179
  cases r with
  | false => exact ⟨i40, ib, br_t (er.trans sk_t0) (sk_ystart (by rw [c]; exact hz) rfl hb (nm_r (nI_1 k) (H _ _ _ _ (fun j hj => ⟨pk_un (by omega), (pk_un (by omega)).trans (pk_un (by omega)), pk_un (by omega), rfl⟩) ⟨(pk_un (by omega)).trans hst.1, (pk_un (by omega)).trans pk_us, (pk_un (by omega)).trans hst.2.2⟩ ⟨pk_us, pk_us, pk_us⟩ _ _ _ _ _)))⟩
  | true => exact ⟨i40, ib, br_f (fun z => sk_t1 (er.symm.trans z)) ⟨ib, br_t (ec.trans sk_t0) (sk_ystart (by rw [c]; exact hz) rfl hb (nm_r (nI_1 k) (H _ _ _ _ (fun j hj => ⟨pk_un (by omega), (pk_un (by omega)).trans (pk_un (by omega)), pk_un (by omega), rfl⟩) ⟨(pk_un (by omega)).trans hst.1, (pk_un (by omega)).trans pk_us, (pk_un (by omega)).trans hst.2.2⟩ ⟨pk_us, pk_us, pk_us⟩ _ _ _ _ _)))⟩⟩
theorem sk_ty3f {post : Int32 → SY → Prop} (hN : N ≤ 40) (hM : M ≤ 50) (HE : ∀ e, e < M → sk_node ek ex ey ez ew px py pz od e) (hsc : ∀ p, p < M → (hid p = 0 ↔ sec p = 0)) : sk_ry3f M N sec sk sx sz (fun n k b vs es lc la pc pa dg st rl ch => ∀ (de tq : Int32) (wk aw fd : sk_F), wY_run_44 post n (nI k) nM nN (nI lc) (nI pc) de tq (nI b) ek ex ey ez ew hid wld sk sx sy sz sw dp oS hS lab vs es la pa wk aw fd dg st rl ch) := by
  intro n k b vs es lc la pc pa dg st rl ch s g r p hs hk hb hst hkk hg hp h1 hor H de tq wk aw fd
  have a1 : ¬ (60000 : Int32) ≤ nI k := nI_ge (b := 60000) hk (by decide)
  have a2 : ¬ nI (b + 1) ≤ 0 := nI_nle (by omega) (by omega)
  have c := nI_clamp (show s < 2 ^ 31 by omega)
  have i40 : vp_in (nI s) 40 := vp_in_nI (by omega) (by omega)
  have ib : vp_in (nI b) 32 := vp_in_nI (by omega) (by omega)
  have cb := nI_clamp (show b < 2 ^ 31 by omega)
  have er : rl (nI b).toNatClampNeg = sk_bI r := by rw [cb]; exact hst.2.2
  have ed : dg (nI b).toNatClampNeg = nI s := by rw [cb]; exact hst.1
  subst hg
  have ip : vp_in (nI p) 50 := vp_in_nI (by omega) (by omega)
  have cp := nI_clamp (show p < 2 ^ 31 by omega)
  have ep : sx (nI s).toNatClampNeg = nI p := by rw [c]; exact h1
  refine br_f a1 (br_f a2 (nm_r (nI_pred b) ⟨ib, nm_r (e' := nI s) ed ⟨ib, nm_r (e' := nI 1) (by rw [cb]; exact hst.2.1) ⟨ib, ib, nm_r (e' := upd st b (nI (1 + 1))) (by rw [cb, hst.2.1, nI_1]) ⟨i40, nm_r (e' := 3) (by rw [c]; exact hkk) ?_⟩⟩⟩⟩))
  refine br_f (by decide) (br_f (by decide) (br_f (by decide) (br_t rfl ⟨ib, nm_r (e' := nI s) ed ⟨i40, by rw [ep]; exact ip, nm_r (e' := hid p) (by rw [ep, cp]) (br_f (by decide) (br_t rfl ⟨i40, ?_⟩))⟩⟩)))
  rcases hor with hz | ⟨z, hzN, hz, hsec, hch⟩
  · exact br_t (by rw [c, hz]; decide) (nm_r (nI_pred b) (nm_r (nI_1 k) (H _ _ _ _ (fun j hj => ⟨rfl, pk_un (by omega), rfl, rfl⟩) _ _ _ _ _)))
  · have hh : hid p = 0 := (hsc p hp).mpr hsec
    have ec : ch (nI b).toNatClampNeg = sk_bI true := by rw [cb]; exact hch
    have hz0 : ¬ sz (nI s).toNatClampNeg < 0 := by rw [c, hz]; exact nI_pos (by omega)
    exact br_f hz0 (br_t hh ⟨ib, br_f (fun z => sk_t1 (ec.symm.trans z)) (nm_r (nI_pred b) (nm_r (nI_1 k) (H _ _ _ _ (fun j hj => ⟨rfl, pk_un (by omega), rfl, rfl⟩) _ _ _ _ _)))⟩)
theorem sk_ty3g {post : Int32 → SY → Prop} (hN : N ≤ 40) (hM : M ≤ 50) (HE : ∀ e, e < M → sk_node ek ex ey ez ew px py pz od e) (hsc : ∀ p, p < M → (hid p = 0 ↔ sec p = 0)) : sk_ry3g M N sk sx (fun n k b vs es lc la pc pa dg st rl ch => ∀ (de tq : Int32) (wk aw fd : sk_F), wY_run_44 post n (nI k) nM nN (nI lc) (nI pc) de tq (nI b) ek ex ey ez ew hid wld sk sx sy sz sw dp oS hS lab vs es la pa wk aw fd dg st rl ch) := by
  intro n k b vs es lc la pc pa dg st rl ch s g r p hs hk hb hst hkk hg hp h1 H de tq wk aw fd
  have a1 : ¬ (60000 : Int32) ≤ nI k := nI_ge (b := 60000) hk (by decide)
  have a2 : ¬ nI (b + 1) ≤ 0 := nI_nle (by omega) (by omega)
  have c := nI_clamp (show s < 2 ^ 31 by omega)
  have i40 : vp_in (nI s) 40 := vp_in_nI (by omega) (by omega)
  have ib : vp_in (nI b) 32 := vp_in_nI (by omega) (by omega)
  have cb := nI_clamp (show b < 2 ^ 31 by omega)
  have er : rl (nI b).toNatClampNeg = sk_bI r := by rw [cb]; exact hst.2.2
  have ed : dg (nI b).toNatClampNeg = nI s := by rw [cb]; exact hst.1
  subst hg
  have ip : vp_in (nI p) 50 := vp_in_nI (by omega) (by omega)
  have cp := nI_clamp (show p < 2 ^ 31 by omega)
  have ep : sx (nI s).toNatClampNeg = nI p := by rw [c]; exact h1
  refine br_f a1 (br_f a2 (nm_r (nI_pred b) ⟨ib, nm_r (e' := nI s) ed ⟨ib, nm_r (e' := nI 2) (by rw [cb]; exact hst.2.1) ⟨ib, ib, nm_r (e' := upd st b (nI (2 + 1))) (by rw [cb, hst.2.1, nI_1]) ⟨i40, nm_r (e' := 3) (by rw [c]; exact hkk) ?_⟩⟩⟩⟩))
  exact br_f (by decide) (br_f (by decide) (br_f (by decide) (br_t rfl ⟨ib, nm_r (e' := nI s) ed ⟨i40, by rw [ep]; exact ip, nm_r (e' := hid p) (by rw [ep, cp]) (br_f (by decide) (br_f (by decide) (nm_r (nI_pred b) (nm_r (nI_1 k) (H _ _ _ _ (fun j hj => ⟨rfl, pk_un (by omega), rfl, rfl⟩) _ _ _ _ _)))))⟩⟩)))
theorem sk_ty4a {post : Int32 → SY → Prop} (hN : N ≤ 40) (hM : M ≤ 50) (HE : ∀ e, e < M → sk_node ek ex ey ez ew px py pz od e) (hsc : ∀ p, p < M → (hid p = 0 ↔ sec p = 0)) : sk_ry4a N sk sx sy (fun n k b vs es lc la pc pa dg st rl ch => ∀ (de tq : Int32) (wk aw fd : sk_F), wY_run_44 post n (nI k) nM nN (nI lc) (nI pc) de tq (nI b) ek ex ey ez ew hid wld sk sx sy sz sw dp oS hS lab vs es la pa wk aw fd dg st rl ch) := by
  intro n k b vs es lc la pc pa dg st rl ch s g r x q hs hk hb hst hkk hx h1 hq h2 hg H de tq wk aw fd
  have a1 : ¬ (60000 : Int32) ≤ nI k := nI_ge (b := 60000) hk (by decide)
  have a2 : ¬ nI (b + 1) ≤ 0 := nI_nle (by omega) (by omega)
  have c := nI_clamp (show s < 2 ^ 31 by omega)
  have i40 : vp_in (nI s) 40 := vp_in_nI (by omega) (by omega)
  have ib : vp_in (nI b) 32 := vp_in_nI (by omega) (by omega)
  have cb := nI_clamp (show b < 2 ^ 31 by omega)
  have er : rl (nI b).toNatClampNeg = sk_bI r := by rw [cb]; exact hst.2.2
  have eb : vp_nar .boolean (rl (nI b).toNatClampNeg) = sk_bI r := by rw [er]; exact sk_nb r
  have ed : dg (nI b).toNatClampNeg = nI s := by rw [cb]; exact hst.1
  have ek4 : sk (nI s).toNatClampNeg = 4 := by rw [c]; exact hkk
  refine br_f a1 (br_f a2 (nm_r (nI_pred b) ⟨ib, nm_r (e' := nI s) ed ⟨ib, nm_r (e' := nI g) (by rw [cb]; exact hst.2.1) ⟨ib, ib, nm_r (e' := upd st b (nI (g + 1))) (by rw [cb, hst.2.1, nI_1]) ⟨i40, nm_r (e' := 4) (by rw [c]; exact hkk) ?_⟩⟩⟩⟩))
  unfold wpY_repeat wY_repeat_29 wY_repeat_37 wY_repeat_77 wY_repeat_90 wY_repeat_92
  exact br_f (by decide) (br_f (by decide) (br_f (by decide) (br_f (by decide) ⟨ib, nm_r (e' := nI s) ed ⟨i40, br_t ek4 ⟨i40, br_f (by rw [c, h1]; exact nI_ge hg (by omega)) (br_f (by decide) ⟨i40, br_f (by rw [ek4]; decide) (br_f (by decide) ⟨i40, ib, sk_ystart (by rw [c]; exact h2) eb hb (nm_r (nI_1 k) (H _ _ _ _ (fun j hj => ⟨pk_un (by omega), (pk_un (by omega)).trans (pk_un (by omega)), pk_un (by omega), rfl⟩) ⟨(pk_un (by omega)).trans hst.1, (pk_un (by omega)).trans pk_us, (pk_un (by omega)).trans hst.2.2⟩ ⟨pk_us, pk_us, pk_us⟩ _ _ _ _ _))⟩)⟩)⟩⟩⟩)))
theorem sk_ty4b {post : Int32 → SY → Prop} (hN : N ≤ 40) (hM : M ≤ 50) (HE : ∀ e, e < M → sk_node ek ex ey ez ew px py pz od e) (hsc : ∀ p, p < M → (hid p = 0 ↔ sec p = 0)) : sk_ry4b N sk sx (fun n k b vs es lc la pc pa dg st rl ch => ∀ (de tq : Int32) (wk aw fd : sk_F), wY_run_44 post n (nI k) nM nN (nI lc) (nI pc) de tq (nI b) ek ex ey ez ew hid wld sk sx sy sz sw dp oS hS lab vs es la pa wk aw fd dg st rl ch) := by
  intro n k b vs es lc la pc pa dg st rl ch s g r x hs hk hb hst hkk hx h1 hg H de tq wk aw fd
  have a1 : ¬ (60000 : Int32) ≤ nI k := nI_ge (b := 60000) hk (by decide)
  have a2 : ¬ nI (b + 1) ≤ 0 := nI_nle (by omega) (by omega)
  have c := nI_clamp (show s < 2 ^ 31 by omega)
  have i40 : vp_in (nI s) 40 := vp_in_nI (by omega) (by omega)
  have ib : vp_in (nI b) 32 := vp_in_nI (by omega) (by omega)
  have cb := nI_clamp (show b < 2 ^ 31 by omega)
  have er : rl (nI b).toNatClampNeg = sk_bI r := by rw [cb]; exact hst.2.2
  have eb : vp_nar .boolean (rl (nI b).toNatClampNeg) = sk_bI r := by rw [er]; exact sk_nb r
  have ed : dg (nI b).toNatClampNeg = nI s := by rw [cb]; exact hst.1
  have ek4 : sk (nI s).toNatClampNeg = 4 := by rw [c]; exact hkk
  refine br_f a1 (br_f a2 (nm_r (nI_pred b) ⟨ib, nm_r (e' := nI s) ed ⟨ib, nm_r (e' := nI g) (by rw [cb]; exact hst.2.1) ⟨ib, ib, nm_r (e' := upd st b (nI (g + 1))) (by rw [cb, hst.2.1, nI_1]) ⟨i40, nm_r (e' := 4) (by rw [c]; exact hkk) ?_⟩⟩⟩⟩))
  unfold wpY_repeat wY_repeat_29 wY_repeat_37 wY_repeat_77 wY_repeat_90 wY_repeat_92
  exact br_f (by decide) (br_f (by decide) (br_f (by decide) (br_f (by decide) ⟨ib, nm_r (e' := nI s) ed ⟨i40, br_t ek4 ⟨i40, br_t (by rw [c, h1, hg]; exact nI_le (Nat.le_refl _) (by omega)) (br_t rfl (br_t rfl (nm_r (nI_pred b) (nm_r (nI_1 k) (H _ _ _ _ (fun j hj => ⟨rfl, pk_un (by omega), rfl, rfl⟩) _ _ _ _ _)))))⟩⟩⟩)))
theorem sk_ty5a {post : Int32 → SY → Prop} (hN : N ≤ 40) (hM : M ≤ 50) (HE : ∀ e, e < M → sk_node ek ex ey ez ew px py pz od e) (hsc : ∀ p, p < M → (hid p = 0 ↔ sec p = 0)) : sk_ry5a M N ek ex ey ez ew sk sx sy (fun n k b vs es lc la pc pa dg st rl ch => ∀ (de tq : Int32) (wk aw fd : sk_F), wY_run_44 post n (nI k) nM nN (nI lc) (nI pc) de tq (nI b) ek ex ey ez ew hid wld sk sx sy sz sw dp oS hS lab vs es la pa wk aw fd dg st rl ch) := by
  intro n k b vs es lc la pc pa dg st rl ch s g r p q v lc' la' hs hk hb hst hkk hp h1 hg E hlc hq h2 h0 H de tq wk aw fd
  have a1 : ¬ (60000 : Int32) ≤ nI k := nI_ge (b := 60000) hk (by decide)
  have a2 : ¬ nI (b + 1) ≤ 0 := nI_nle (by omega) (by omega)
  have c := nI_clamp (show s < 2 ^ 31 by omega)
  have i40 : vp_in (nI s) 40 := vp_in_nI (by omega) (by omega)
  have ib : vp_in (nI b) 32 := vp_in_nI (by omega) (by omega)
  have cb := nI_clamp (show b < 2 ^ 31 by omega)
  have er : rl (nI b).toNatClampNeg = sk_bI r := by rw [cb]; exact hst.2.2
  have eb : vp_nar .boolean (rl (nI b).toNatClampNeg) = sk_bI r := by rw [er]; exact sk_nb r
  have ed : dg (nI b).toNatClampNeg = nI s := by rw [cb]; exact hst.1
  have ek4 : sk (nI s).toNatClampNeg = 5 := by rw [c]; exact hkk
  refine br_f a1 (br_f a2 (nm_r (nI_pred b) ⟨ib, nm_r (e' := nI s) ed ⟨ib, nm_r (e' := nI g) (by rw [cb]; exact hst.2.1) ⟨ib, ib, nm_r (e' := upd st b (nI (g + 1))) (by rw [cb, hst.2.1, nI_1]) ⟨i40, nm_r (e' := 5) (by rw [c]; exact hkk) ?_⟩⟩⟩⟩))
  unfold wpY_repeat wY_repeat_29 wY_repeat_37 wY_repeat_77 wY_repeat_90 wY_repeat_92
  exact br_f (by decide) (br_f (by decide) (br_f (by decide) (br_f (by decide) ⟨ib, nm_r (e' := nI s) ed ⟨i40, br_f (by rw [ek4]; decide) (br_f (nI_ge (b := 6) hg (by decide)) (br_f (by decide) ⟨i40, br_t ek4 ⟨i40, sk_ywork (by rw [c]; exact h1) hM HE hp E (fun de' tq' wk' aw' fd' => br_f h0 (sk_yleak hlc (br_f h0 (br_f (by decide) ⟨i40, ib, sk_ystart (by rw [c]; exact h2) eb hb (nm_r (nI_1 k) (H _ _ _ _ (fun j hj => ⟨pk_un (by omega), (pk_un (by omega)).trans (pk_un (by omega)), pk_un (by omega), rfl⟩) ⟨(pk_un (by omega)).trans hst.1, (pk_un (by omega)).trans pk_us, (pk_un (by omega)).trans hst.2.2⟩ ⟨pk_us, pk_us, pk_us⟩ _ _ _ _ _))⟩))))⟩⟩))⟩⟩)))
theorem sk_ty5b {post : Int32 → SY → Prop} (hN : N ≤ 40) (hM : M ≤ 50) (HE : ∀ e, e < M → sk_node ek ex ey ez ew px py pz od e) (hsc : ∀ p, p < M → (hid p = 0 ↔ sec p = 0)) : sk_ry5b M N ek ex ey ez ew sk sx (fun n k b vs es lc la pc pa dg st rl ch => ∀ (de tq : Int32) (wk aw fd : sk_F), wY_run_44 post n (nI k) nM nN (nI lc) (nI pc) de tq (nI b) ek ex ey ez ew hid wld sk sx sy sz sw dp oS hS lab vs es la pa wk aw fd dg st rl ch) := by
  intro n k b vs es lc la pc pa dg st rl ch s g r p v lc' la' hs hk hb hst hkk hp h1 hg E hlc h0 H de tq wk aw fd
  have a1 : ¬ (60000 : Int32) ≤ nI k := nI_ge (b := 60000) hk (by decide)
  have a2 : ¬ nI (b + 1) ≤ 0 := nI_nle (by omega) (by omega)
  have c := nI_clamp (show s < 2 ^ 31 by omega)
  have i40 : vp_in (nI s) 40 := vp_in_nI (by omega) (by omega)
  have ib : vp_in (nI b) 32 := vp_in_nI (by omega) (by omega)
  have cb := nI_clamp (show b < 2 ^ 31 by omega)
  have er : rl (nI b).toNatClampNeg = sk_bI r := by rw [cb]; exact hst.2.2
  have eb : vp_nar .boolean (rl (nI b).toNatClampNeg) = sk_bI r := by rw [er]; exact sk_nb r
  have ed : dg (nI b).toNatClampNeg = nI s := by rw [cb]; exact hst.1
  have ek4 : sk (nI s).toNatClampNeg = 5 := by rw [c]; exact hkk
  refine br_f a1 (br_f a2 (nm_r (nI_pred b) ⟨ib, nm_r (e' := nI s) ed ⟨ib, nm_r (e' := nI g) (by rw [cb]; exact hst.2.1) ⟨ib, ib, nm_r (e' := upd st b (nI (g + 1))) (by rw [cb, hst.2.1, nI_1]) ⟨i40, nm_r (e' := 5) (by rw [c]; exact hkk) ?_⟩⟩⟩⟩))
  unfold wpY_repeat wY_repeat_29 wY_repeat_37 wY_repeat_77 wY_repeat_90 wY_repeat_92
  exact br_f (by decide) (br_f (by decide) (br_f (by decide) (br_f (by decide) ⟨ib, nm_r (e' := nI s) ed ⟨i40, br_f (by rw [ek4]; decide) (br_f (nI_ge (b := 6) hg (by decide)) (br_f (by decide) ⟨i40, br_t ek4 ⟨i40, sk_ywork (by rw [c]; exact h1) hM HE hp E (fun de' tq' wk' aw' fd' => br_t h0 (sk_yleak hlc (br_t h0 (br_t rfl (nm_r (nI_pred b) (nm_r (nI_1 k) (H _ _ _ _ (fun j hj => ⟨rfl, pk_un (by omega), rfl, rfl⟩) _ _ _ _ _)))))))⟩⟩))⟩⟩)))
theorem sk_ty5c {post : Int32 → SY → Prop} (hN : N ≤ 40) (hM : M ≤ 50) (HE : ∀ e, e < M → sk_node ek ex ey ez ew px py pz od e) (hsc : ∀ p, p < M → (hid p = 0 ↔ sec p = 0)) : sk_ry5c N sk (fun n k b vs es lc la pc pa dg st rl ch => ∀ (de tq : Int32) (wk aw fd : sk_F), wY_run_44 post n (nI k) nM nN (nI lc) (nI pc) de tq (nI b) ek ex ey ez ew hid wld sk sx sy sz sw dp oS hS lab vs es la pa wk aw fd dg st rl ch) := by
  intro n k b vs es lc la pc pa dg st rl ch s g r hs hk hb hst hkk hg H de tq wk aw fd
  have a1 : ¬ (60000 : Int32) ≤ nI k := nI_ge (b := 60000) hk (by decide)
  have a2 : ¬ nI (b + 1) ≤ 0 := nI_nle (by omega) (by omega)
  have c := nI_clamp (show s < 2 ^ 31 by omega)
  have i40 : vp_in (nI s) 40 := vp_in_nI (by omega) (by omega)
  have ib : vp_in (nI b) 32 := vp_in_nI (by omega) (by omega)
  have cb := nI_clamp (show b < 2 ^ 31 by omega)
  have er : rl (nI b).toNatClampNeg = sk_bI r := by rw [cb]; exact hst.2.2
  have eb : vp_nar .boolean (rl (nI b).toNatClampNeg) = sk_bI r := by rw [er]; exact sk_nb r
  have ed : dg (nI b).toNatClampNeg = nI s := by rw [cb]; exact hst.1
  subst hg
  have ek4 : sk (nI s).toNatClampNeg = 5 := by rw [c]; exact hkk
  refine br_f a1 (br_f a2 (nm_r (nI_pred b) ⟨ib, nm_r (e' := nI s) ed ⟨ib, nm_r (e' := nI 6) (by rw [cb]; exact hst.2.1) ⟨ib, ib, nm_r (e' := upd st b (nI (6 + 1))) (by rw [cb, hst.2.1, nI_1]) ⟨i40, nm_r (e' := 5) (by rw [c]; exact hkk) ?_⟩⟩⟩⟩))
  unfold wpY_repeat wY_repeat_29 wY_repeat_37 wY_repeat_77 wY_repeat_90 wY_repeat_92
  exact br_f (by decide) (br_f (by decide) (br_f (by decide) (br_f (by decide) ⟨ib, nm_r (e' := nI s) ed ⟨i40, br_f (by rw [ek4]; decide) (br_t (by decide) (br_t rfl (br_t rfl (nm_r (nI_pred b) (nm_r (nI_1 k) (H _ _ _ _ (fun j hj => ⟨rfl, pk_un (by omega), rfl, rfl⟩) _ _ _ _ _))))))⟩⟩)))
theorem sk_ty {post : Int32 → SY → Prop} (hN : N ≤ 40) (hM : M ≤ 50) (HE : ∀ e, e < M → sk_node ek ex ey ez ew px py pz od e) (hsc : ∀ p, p < M → (hid p = 0 ↔ sec p = 0)) : sk_RYs M N ek ex ey ez ew sec sk sx sy sz (fun n k b vs es lc la pc pa dg st rl ch => ∀ (de tq : Int32) (wk aw fd : sk_F), wY_run_44 post n (nI k) nM nN (nI lc) (nI pc) de tq (nI b) ek ex ey ez ew hid wld sk sx sy sz sw dp oS hS lab vs es la pa wk aw fd dg st rl ch) :=
  ⟨sk_ty0 hN hM HE hsc, sk_ty1 hN hM HE hsc, sk_ty2a hN hM HE hsc, sk_ty2b hN hM HE hsc, sk_ty2c hN hM HE hsc, sk_ty3a hN hM HE hsc, sk_ty3b hN hM HE hsc, sk_ty3c hN hM HE hsc, sk_ty3d hN hM HE hsc, sk_ty3e hN hM HE hsc, sk_ty3f hN hM HE hsc, sk_ty3g hN hM HE hsc, sk_ty4a hN hM HE hsc, sk_ty4b hN hM HE hsc, sk_ty5a hN hM HE hsc, sk_ty5b hN hM HE hsc, sk_ty5c hN hM HE hsc, sk_ty6 hN hM HE hsc⟩
end
