/-! 07: X: one step of a run, kind by kind -/
section
variable {nM nN : Int32} {M N lc pc b : Nat} {vs es lab ek ex ey ez px py pz ew od sec rdo sk sx sy sz sw dp so sh la pa vl ps pt pr : sk_F}
theorem sk_xplan {post : SX → Prop} {s : Nat} {p0 t r t' f : Int32} (e0 : p0 = nI s) (hs : s < 40) (hb : b < 30) (ht : t = t') (hf : vp_nar .boolean r = f) (H : post (nM, nN, nI lc, nI pc, nI (b + 1), vs, es, lab, ek, ex, px, py, pz, ew, od, sec, rdo, sk, sx, sy, sz, sw, dp, so, sh, la, pa, vl, upd ps b (nI s), upd pt b t', upd pr b f)) : wpX_plan post (nM, nN, nI lc, nI pc, nI b, vs, es, lab, ek, ex, px, py, pz, ew, od, sec, rdo, sk, sx, sy, sz, sw, dp, so, sh, la, pa, vl, ps, pt, pr) p0 t r := by
  subst e0 ht hf
  have i : vp_in (nI b) 30 := vp_in_nI hb (by omega)
  have c := nI_clamp (show b < 2 ^ 31 by omega)
  unfold wpX_plan
  dsimp only
  rw [c]
  exact br_f (sk_m1 (by omega)) ⟨i, nm_e ⟨i, nm_e ⟨i, nm_e (nm_r (nI_1 b) H)⟩⟩⟩
theorem sk_xplan0 {post : SX → Prop} {p0 t r : Int32} (e0 : p0 = -1) (H : post (nM, nN, nI lc, nI pc, nI b, vs, es, lab, ek, ex, px, py, pz, ew, od, sec, rdo, sk, sx, sy, sz, sw, dp, so, sh, la, pa, vl, ps, pt, pr)) : wpX_plan post (nM, nN, nI lc, nI pc, nI b, vs, es, lab, ek, ex, px, py, pz, ew, od, sec, rdo, sk, sx, sy, sz, sw, dp, so, sh, la, pa, vl, ps, pt, pr) p0 t r := br_t e0 H
theorem sk_xwk {post : Int32 → SX → Prop} {e lc' : Nat} {p0 v : Int32} {la' : sk_F} (e0 : p0 = nI e) (hM : M ≤ 50) (HE : ∀ e, e < M → sk_node ek ex ey ez ew px py pz od e) (he : e < M) (hv : sk_EvX M ek ex ew od vs es e lc la v lc' la')
    (H : ∀ vl' : sk_F, post v (nM, nN, nI lc', nI pc, nI b, vs, es, lab, ek, ex, px, py, pz, ew, od, sec, rdo, sk, sx, sy, sz, sw, dp, so, sh, la', pa, vl', ps, pt, pr)) : wpX_workOut post (nM, nN, nI lc, nI pc, nI b, vs, es, lab, ek, ex, px, py, pz, ew, od, sec, rdo, sk, sx, sy, sz, sw, dp, so, sh, la, pa, vl, ps, pt, pr) p0 := by
  subst e0
  exact sk_xwork hM HE he hv H
theorem sk_xap {post : SX → Prop} {v : Int32} (h : pc < 2 ^ 30) (H : post (nM, nN, nI lc, nI (pc + 1), nI b, vs, es, lab, ek, ex, px, py, pz, ew, od, sec, rdo, sk, sx, sy, sz, sw, dp, so, sh, la, sk_put 20 pc pa v, vl, ps, pt, pr)) : wpX_addPrint post (nM, nN, nI lc, nI pc, nI b, vs, es, lab, ek, ex, px, py, pz, ew, od, sec, rdo, sk, sx, sy, sz, sw, dp, so, sh, la, pa, vl, ps, pt, pr) v := by
  unfold wpX_addPrint
  dsimp only
  refine pk_le 20 pc (fun h2 => ?_) (fun h2 => ?_)
  · rw [sk_put_ge h2] at H
    exact nm_r (nI_1 pc) H
  · rw [sk_put_lt h2] at H
    exact ⟨vp_in_nI h2 (by omega), nm_r (by rw [nI_clamp (by omega)]) (nm_r (nI_1 pc) H)⟩
theorem sk_t1 : ¬ sk_bI true = 0 := by decide
theorem sk_t0 : sk_bI false = 0 := rfl
theorem sk_xassign {post : SX → Prop} {s x p lc' : Nat} {r : Bool} {v : Int32} {la' : sk_F} (hM : M ≤ 50) (HE : ∀ e, e < M → sk_node ek ex ey ez ew px py pz od e) (hs : s < 40) (hx : x < 8) (h1 : sx s = nI x) (hp : p < M) (h2 : sy s = nI p) (hv : sk_EvX M ek ex ew od vs es p lc la v lc' la')
    (H : ∀ vl' : sk_F, post (nM, nN, nI lc', nI pc, nI b, if r then upd vs x v else vs, es, lab, ek, ex, px, py, pz, ew, od, sec, rdo, sk, sx, sy, sz, sw, dp, so, sh, la', pa, vl', ps, pt, pr)) : wpX_assign post (nM, nN, nI lc, nI pc, nI b, vs, es, lab, ek, ex, px, py, pz, ew, od, sec, rdo, sk, sx, sy, sz, sw, dp, so, sh, la, pa, vl, ps, pt, pr) (nI s) (sk_bI r) := by
  have i : vp_in (nI s) 40 := vp_in_nI hs (by omega)
  have c := nI_clamp (show s < 2 ^ 31 by omega)
  refine ⟨i, sk_xwk (by rw [c]; exact h2) hM HE hp hv (fun vl' => ?_)⟩
  cases r with
  | false => exact br_t sk_t0 (H vl')
  | true => exact br_f sk_t1 ⟨i, by rw [c, h1]; exact vp_in_nI hx (by omega), nm_r (e' := upd vs x v) (by rw [c, h1, nI_clamp (by omega)]) (H vl')⟩
theorem sk_xstore {post : SX → Prop} {s a p q lc1 lc' : Nat} {r : Bool} {i v : Int32} {la1 la' : sk_F} (hM : M ≤ 50) (HE : ∀ e, e < M → sk_node ek ex ey ez ew px py pz od e) (hs : s < 40) (ha : a < 2) (h1 : sx s = nI a) (hp : p < M) (h2 : sy s = nI p) (hq : q < M) (h3 : sz s = nI q)
    (hv1 : sk_EvX M ek ex ew od vs es p lc la i lc1 la1) (hv : sk_EvX M ek ex ew od vs es q lc1 la1 v lc' la') (hlc : lc' < 2 ^ 30)
    (H : ∀ vl' : sk_F, post (nM, nN, nI (lc' + 1), nI pc, nI b, vs, if r then upd es (sk_at (nI a) i).toNatClampNeg v else es, lab, ek, ex, px, py, pz, ew, od, sec, rdo, sk, sx, sy, sz, sw, dp, so, sh, sk_put 200 lc' la' (32 + sk_at (nI a) i), pa, vl', ps, pt, pr)) : wpX_store post (nM, nN, nI lc, nI pc, nI b, vs, es, lab, ek, ex, px, py, pz, ew, od, sec, rdo, sk, sx, sy, sz, sw, dp, so, sh, la, pa, vl, ps, pt, pr) (nI s) (sk_bI r) := by
  have i40 : vp_in (nI s) 40 := vp_in_nI hs (by omega)
  have c := nI_clamp (show s < 2 ^ 31 by omega)
  obtain ⟨j, hj, ej, _⟩ := sk_pl ha i
  refine ⟨i40, sk_xwk (by rw [c]; exact h2) hM HE hp hv1 (fun vl1 => ⟨i40, sk_xwk (by rw [c]; exact h3) hM HE hq hv (fun vl' => ⟨i40, ?_⟩)⟩)⟩
  have e1 : sx (nI s).toNatClampNeg * 8 + (i &&& 7) = sk_at (nI a) i := by rw [c, h1]; rfl
  unfold wpX_placeOf
  rw [e1]
  refine sk_xadd hlc ?_
  cases r with
  | false => exact br_t sk_t0 (H vl')
  | true => exact br_f sk_t1 ⟨by rw [ej]; exact vp_in_nI hj (by omega), nm_e (H vl')⟩
theorem sk_xprint {post : SX → Prop} {s p lc' : Nat} {v : Int32} {la' : sk_F} (hM : M ≤ 50) (HE : ∀ e, e < M → sk_node ek ex ey ez ew px py pz od e) (hs : s < 40) (hp : p < M) (h1 : sx s = nI p) (hv : sk_EvX M ek ex ew od vs es p lc la v lc' la') (hpc : pc < 2 ^ 30)
    (H : ∀ vl' : sk_F, post (nM, nN, nI lc', nI (pc + 1), nI b, vs, es, lab, ek, ex, px, py, pz, ew, od, sec, rdo, sk, sx, sy, sz, sw, dp, so, sh, la', sk_put 20 pc pa v, vl', ps, pt, pr)) : wpX_print post (nM, nN, nI lc, nI pc, nI b, vs, es, lab, ek, ex, px, py, pz, ew, od, sec, rdo, sk, sx, sy, sz, sw, dp, so, sh, la, pa, vl, ps, pt, pr) (nI s) (sk_bI true) := by
  have i : vp_in (nI s) 40 := vp_in_nI hs (by omega)
  have c := nI_clamp (show s < 2 ^ 31 by omega)
  exact ⟨i, sk_xwk (by rw [c]; exact h1) hM HE hp hv (fun vl' => br_f sk_t1 (sk_xap hpc (H vl')))⟩
theorem sk_xpt {post : SX → Prop} {s t q : Nat} {r : Bool} (hs : s < 40) (hq : q < 40) (h2 : sy s = nI q) (hb : b + 1 < 30) (H : post (nM, nN, nI lc, nI pc, nI (b + 1 + 1), vs, es, lab, ek, ex, px, py, pz, ew, od, sec, rdo, sk, sx, sy, sz, sw, dp, so, sh, la, pa, vl, upd (upd ps b (nI s)) (b + 1) (nI q), upd (upd pt b (nI (t + 1))) (b + 1) (nI 0), upd (upd pr b (sk_bI r)) (b + 1) (sk_bI r))) : wpX_planTurn post (nM, nN, nI lc, nI pc, nI b, vs, es, lab, ek, ex, px, py, pz, ew, od, sec, rdo, sk, sx, sy, sz, sw, dp, so, sh, la, pa, vl, ps, pt, pr) (nI s) (nI t) (sk_bI r) := by
  have i : vp_in (nI s) 40 := vp_in_nI hs (by omega)
  have c := nI_clamp (show s < 2 ^ 31 by omega)
  unfold wpX_planTurn
  dsimp only
  exact sk_xplan rfl hs (by omega) (nI_1 t) (sk_nb r) ⟨i, sk_xplan (by rw [c]; exact h2) hq hb rfl (sk_nb r) H⟩
theorem sk_xb3a {post : SX → Prop} {s p q lc' : Nat} {r : Bool} {v : Int32} {la' : sk_F} (hM : M ≤ 50) (HE : ∀ e, e < M → sk_node ek ex ey ez ew px py pz od e) (hs : s < 40) (hp : p < M) (h1 : sx s = nI p) (hq : q < 40) (h2 : sy s = nI q) (hv : sk_EvX M ek ex ew od vs es p lc la v lc' la') (hsec : ¬ sec p = 0) (hz : sz s = -1) (hb : b < 30)
    (H : ∀ vl' : sk_F, post (nM, nN, nI lc', nI pc, nI (b + 1), vs, es, lab, ek, ex, px, py, pz, ew, od, sec, rdo, sk, sx, sy, sz, sw, dp, so, sh, la', pa, vl', upd ps b (nI q), upd pt b (nI 0), upd pr b (sk_bI (r && decide (¬ v = 0))))) : wpX_branch post (nM, nN, nI lc, nI pc, nI b, vs, es, lab, ek, ex, px, py, pz, ew, od, sec, rdo, sk, sx, sy, sz, sw, dp, so, sh, la, pa, vl, ps, pt, pr) (nI s) (sk_bI r) := by
  have i : vp_in (nI s) 40 := vp_in_nI hs (by omega)
  have c := nI_clamp (show s < 2 ^ 31 by omega)
  have ip : vp_in (nI p) 50 := vp_in_nI (by omega) (by omega)
  have cp := nI_clamp (show p < 2 ^ 31 by omega)
  unfold wpX_branch wX_branch_20 wX_branch_95 wX_branch_119 wX_branch_52 wX_branch_53 wX_branch_77 wX_branch_78
  refine ⟨i, nm_r (e' := nI p) (by rw [c]; exact h1) (sk_xwk rfl hM HE hp hv (fun vl' => ?_))⟩
  have hs2 : ¬ sec (nI p).toNatClampNeg = 0 := by rw [cp]; exact hsec
  by_cases h0 : v = 0
  · have d1 : decide (v = 0) = true := decide_eq_true h0
    have d2 : decide (¬ v = 0) = false := decide_eq_false (fun z => z h0)
    rw [d2] at H
    skip
    cases r with
    | false => exact br_t h0 ⟨ip, br_f hs2 ⟨i, br_t sk_t0 (sk_xplan0 (by rw [c]; exact hz) ⟨i, (br_t sk_t0 (sk_xplan (by rw [c]; exact h2) hq hb rfl rfl (H vl')))⟩)⟩⟩
    | true => exact br_t h0 ⟨ip, br_f hs2 ⟨i, br_f sk_t1 (br_t rfl (sk_xplan0 (by rw [c]; exact hz) ⟨i, (br_f sk_t1 (br_t rfl (sk_xplan (by rw [c]; exact h2) hq hb rfl rfl (H vl'))))⟩))⟩⟩
  · have d1 : decide (v = 0) = false := decide_eq_false h0
    have d2 : decide (¬ v = 0) = true := decide_eq_true h0
    rw [d2] at H
    skip
    cases r with
    | false => exact br_f h0 ⟨ip, br_f hs2 ⟨i, br_t sk_t0 (sk_xplan0 (by rw [c]; exact hz) ⟨i, (br_t sk_t0 (sk_xplan (by rw [c]; exact h2) hq hb rfl rfl (H vl')))⟩)⟩⟩
    | true => exact br_f h0 ⟨ip, br_f hs2 ⟨i, br_f sk_t1 (br_f (by decide) (sk_xplan0 (by rw [c]; exact hz) ⟨i, (br_f sk_t1 (br_f (by decide) (sk_xplan (by rw [c]; exact h2) hq hb rfl rfl (H vl'))))⟩))⟩⟩
theorem sk_xb3b {post : SX → Prop} {s p q lc' : Nat} {r : Bool} {v : Int32} {la' : sk_F} {z : Nat} (hM : M ≤ 50) (HE : ∀ e, e < M → sk_node ek ex ey ez ew px py pz od e) (hs : s < 40) (hp : p < M) (h1 : sx s = nI p) (hq : q < 40) (h2 : sy s = nI q) (hv : sk_EvX M ek ex ew od vs es p lc la v lc' la') (hsec : ¬ sec p = 0) (hzN : z < 40) (hz : sz s = nI z) (hb : b + 1 < 30)
    (H : ∀ vl' : sk_F, post (nM, nN, nI lc', nI pc, nI (b + 1 + 1), vs, es, lab, ek, ex, px, py, pz, ew, od, sec, rdo, sk, sx, sy, sz, sw, dp, so, sh, la', pa, vl', upd (upd ps b (nI z)) (b + 1) (nI q), upd (upd pt b (nI 0)) (b + 1) (nI 0), upd (upd pr b (sk_bI (r && decide (v = 0)))) (b + 1) (sk_bI (r && decide (¬ v = 0))))) : wpX_branch post (nM, nN, nI lc, nI pc, nI b, vs, es, lab, ek, ex, px, py, pz, ew, od, sec, rdo, sk, sx, sy, sz, sw, dp, so, sh, la, pa, vl, ps, pt, pr) (nI s) (sk_bI r) := by
  have i : vp_in (nI s) 40 := vp_in_nI hs (by omega)
  have c := nI_clamp (show s < 2 ^ 31 by omega)
  have ip : vp_in (nI p) 50 := vp_in_nI (by omega) (by omega)
  have cp := nI_clamp (show p < 2 ^ 31 by omega)
  unfold wpX_branch wX_branch_20 wX_branch_95 wX_branch_119 wX_branch_52 wX_branch_53 wX_branch_77 wX_branch_78
  refine ⟨i, nm_r (e' := nI p) (by rw [c]; exact h1) (sk_xwk rfl hM HE hp hv (fun vl' => ?_))⟩
  have hs2 : ¬ sec (nI p).toNatClampNeg = 0 := by rw [cp]; exact hsec
  by_cases h0 : v = 0
  · have d1 : decide (v = 0) = true := decide_eq_true h0
    have d2 : decide (¬ v = 0) = false := decide_eq_false (fun z => z h0)
    rw [d2] at H
    rw [d1] at H
    cases r with
    | false => exact br_t h0 ⟨ip, br_f hs2 ⟨i, br_t sk_t0 (sk_xplan (by rw [c]; exact hz) hzN (by omega) rfl rfl ⟨i, (br_t sk_t0 (sk_xplan (by rw [c]; exact h2) hq hb rfl rfl (H vl')))⟩)⟩⟩
    | true => exact br_t h0 ⟨ip, br_f hs2 ⟨i, br_f sk_t1 (br_t rfl (sk_xplan (by rw [c]; exact hz) hzN (by omega) rfl rfl ⟨i, (br_f sk_t1 (br_t rfl (sk_xplan (by rw [c]; exact h2) hq hb rfl rfl (H vl'))))⟩))⟩⟩
  · have d1 : decide (v = 0) = false := decide_eq_false h0
    have d2 : decide (¬ v = 0) = true := decide_eq_true h0
    rw [d2] at H
    rw [d1] at H
    cases r with
    | false => exact br_f h0 ⟨ip, br_f hs2 ⟨i, br_t sk_t0 (sk_xplan (by rw [c]; exact hz) hzN (by omega) rfl rfl ⟨i, (br_t sk_t0 (sk_xplan (by rw [c]; exact h2) hq hb rfl rfl (H vl')))⟩)⟩⟩
    | true => exact br_f h0 ⟨ip, br_f hs2 ⟨i, br_f sk_t1 (br_f (by decide) (sk_xplan (by rw [c]; exact hz) hzN (by omega) rfl rfl ⟨i, (br_f sk_t1 (br_f (by decide) (sk_xplan (by rw [c]; exact h2) hq hb rfl rfl (H vl'))))⟩))⟩⟩
theorem sk_xb3c {post : SX → Prop} {s p q lc' : Nat} {r : Bool} {v : Int32} {la' : sk_F} (hM : M ≤ 50) (HE : ∀ e, e < M → sk_node ek ex ey ez ew px py pz od e) (hs : s < 40) (hp : p < M) (h1 : sx s = nI p) (hq : q < 40) (h2 : sy s = nI q) (hv : sk_EvX M ek ex ew od vs es p lc la v lc' la') (hsec : sec p = 0) (h0 : ¬ v = 0) (hlc : lc' < 2 ^ 30) (hb : b < 30)
    (H : ∀ vl' : sk_F, post (nM, nN, nI (lc' + 1), nI pc, nI (b + 1), vs, es, lab, ek, ex, px, py, pz, ew, od, sec, rdo, sk, sx, sy, sz, sw, dp, so, sh, sk_put 200 lc' la' 1, pa, vl', upd ps b (nI q), upd pt b (nI 0), upd pr b (sk_bI r))) : wpX_branch post (nM, nN, nI lc, nI pc, nI b, vs, es, lab, ek, ex, px, py, pz, ew, od, sec, rdo, sk, sx, sy, sz, sw, dp, so, sh, la, pa, vl, ps, pt, pr) (nI s) (sk_bI r) := by
  have i : vp_in (nI s) 40 := vp_in_nI hs (by omega)
  have c := nI_clamp (show s < 2 ^ 31 by omega)
  have ip : vp_in (nI p) 50 := vp_in_nI (by omega) (by omega)
  have cp := nI_clamp (show p < 2 ^ 31 by omega)
  unfold wpX_branch wX_branch_20 wX_branch_95 wX_branch_119 wX_branch_52 wX_branch_53 wX_branch_77 wX_branch_78
  refine ⟨i, nm_r (e' := nI p) (by rw [c]; exact h1) (sk_xwk rfl hM HE hp hv (fun vl' => ?_))⟩
  have hs2 : sec (nI p).toNatClampNeg = 0 := by rw [cp]; exact hsec
  exact br_f h0 ⟨ip, br_t hs2 (br_f (by decide) (sk_xadd hlc (br_f (by decide) ⟨i, sk_xplan (by rw [c]; exact h2) hq hb rfl (sk_nb r) (H vl')⟩)))⟩
theorem sk_xb3d {post : SX → Prop} {s p q lc' : Nat} {r : Bool} {v : Int32} {la' : sk_F} (hM : M ≤ 50) (HE : ∀ e, e < M → sk_node ek ex ey ez ew px py pz od e) (hs : s < 40) (hp : p < M) (h1 : sx s = nI p) (hq : q < 40) (h2 : sy s = nI q) (hv : sk_EvX M ek ex ew od vs es p lc la v lc' la') (hsec : sec p = 0) (h0 : v = 0) (hz : sz s = -1) (hlc : lc' < 2 ^ 30)
    (H : ∀ vl' : sk_F, post (nM, nN, nI (lc' + 1), nI pc, nI b, vs, es, lab, ek, ex, px, py, pz, ew, od, sec, rdo, sk, sx, sy, sz, sw, dp, so, sh, sk_put 200 lc' la' 0, pa, vl', ps, pt, pr)) : wpX_branch post (nM, nN, nI lc, nI pc, nI b, vs, es, lab, ek, ex, px, py, pz, ew, od, sec, rdo, sk, sx, sy, sz, sw, dp, so, sh, la, pa, vl, ps, pt, pr) (nI s) (sk_bI r) := by
  have i : vp_in (nI s) 40 := vp_in_nI hs (by omega)
  have c := nI_clamp (show s < 2 ^ 31 by omega)
  have ip : vp_in (nI p) 50 := vp_in_nI (by omega) (by omega)
  have cp := nI_clamp (show p < 2 ^ 31 by omega)
  unfold wpX_branch wX_branch_20 wX_branch_95 wX_branch_119 wX_branch_52 wX_branch_53 wX_branch_77 wX_branch_78
  refine ⟨i, nm_r (e' := nI p) (by rw [c]; exact h1) (sk_xwk rfl hM HE hp hv (fun vl' => ?_))⟩
  have hs2 : sec (nI p).toNatClampNeg = 0 := by rw [cp]; exact hsec
  exact br_t h0 ⟨ip, br_t hs2 (br_t rfl (sk_xadd hlc (br_t rfl ⟨i, sk_xplan0 (by rw [c]; exact hz) (H vl')⟩)))⟩
theorem sk_xb3e {post : SX → Prop} {s p q lc' : Nat} {r : Bool} {v : Int32} {la' : sk_F} {z : Nat} (hM : M ≤ 50) (HE : ∀ e, e < M → sk_node ek ex ey ez ew px py pz od e) (hs : s < 40) (hp : p < M) (h1 : sx s = nI p) (hq : q < 40) (h2 : sy s = nI q) (hv : sk_EvX M ek ex ew od vs es p lc la v lc' la') (hsec : sec p = 0) (h0 : v = 0) (hzN : z < 40) (hz : sz s = nI z) (hlc : lc' < 2 ^ 30) (hb : b < 30)
    (H : ∀ vl' : sk_F, post (nM, nN, nI (lc' + 1), nI pc, nI (b + 1), vs, es, lab, ek, ex, px, py, pz, ew, od, sec, rdo, sk, sx, sy, sz, sw, dp, so, sh, sk_put 200 lc' la' 0, pa, vl', upd ps b (nI z), upd pt b (nI 0), upd pr b (sk_bI r))) : wpX_branch post (nM, nN, nI lc, nI pc, nI b, vs, es, lab, ek, ex, px, py, pz, ew, od, sec, rdo, sk, sx, sy, sz, sw, dp, so, sh, la, pa, vl, ps, pt, pr) (nI s) (sk_bI r) := by
  have i : vp_in (nI s) 40 := vp_in_nI hs (by omega)
  have c := nI_clamp (show s < 2 ^ 31 by omega)
  have ip : vp_in (nI p) 50 := vp_in_nI (by omega) (by omega)
  have cp := nI_clamp (show p < 2 ^ 31 by omega)
  unfold wpX_branch wX_branch_20 wX_branch_95 wX_branch_119 wX_branch_52 wX_branch_53 wX_branch_77 wX_branch_78
  refine ⟨i, nm_r (e' := nI p) (by rw [c]; exact h1) (sk_xwk rfl hM HE hp hv (fun vl' => ?_))⟩
  have hs2 : sec (nI p).toNatClampNeg = 0 := by rw [cp]; exact hsec
  exact br_t h0 ⟨ip, br_t hs2 (br_t rfl (sk_xadd hlc (br_t rfl ⟨i, sk_xplan (by rw [c]; exact hz) hzN hb rfl (sk_nb r) (H vl')⟩)))⟩
theorem sk_xl5a {post : SX → Prop} {s t p q lc' : Nat} {r : Bool} {v : Int32} {la' : sk_F} (hM : M ≤ 50) (HE : ∀ e, e < M → sk_node ek ex ey ez ew px py pz od e) (hs : s < 40) (ht : t < 6) (hp : p < M) (h1 : sx s = nI p) (hq : q < 40) (h2 : sy s = nI q) (hv : sk_EvX M ek ex ew od vs es p lc la v lc' la') (h0 : ¬ v = 0) (hlc : lc' < 2 ^ 30) (hb : b + 1 < 30)
    (H : ∀ vl' : sk_F, post (nM, nN, nI (lc' + 1), nI pc, nI (b + 1 + 1), vs, es, lab, ek, ex, px, py, pz, ew, od, sec, rdo, sk, sx, sy, sz, sw, dp, so, sh, sk_put 200 lc' la' 3, pa, vl', upd (upd ps b (nI s)) (b + 1) (nI q), upd (upd pt b (nI (t + 1))) (b + 1) (nI 0), upd (upd pr b (sk_bI r)) (b + 1) (sk_bI r))) : wpX_loop post (nM, nN, nI lc, nI pc, nI b, vs, es, lab, ek, ex, px, py, pz, ew, od, sec, rdo, sk, sx, sy, sz, sw, dp, so, sh, la, pa, vl, ps, pt, pr) (nI s) (nI t) (sk_bI r) := by
  have i : vp_in (nI s) 40 := vp_in_nI hs (by omega)
  have c := nI_clamp (show s < 2 ^ 31 by omega)
  unfold wpX_loop wX_loop_25 wX_loop_38
  exact br_t (nI_lt (b := 6) ht (by decide)) ⟨i, sk_xwk (by rw [c]; exact h1) hM HE hp hv (fun vl' => br_f h0 (br_f (by decide) (sk_xadd hlc (br_f (by decide) (sk_xpt hs hq h2 hb (H vl'))))))⟩
theorem sk_xl5b {post : SX → Prop} {s t p lc' : Nat} {r : Bool} {v : Int32} {la' : sk_F} (hM : M ≤ 50) (HE : ∀ e, e < M → sk_node ek ex ey ez ew px py pz od e) (hs : s < 40) (ht : t < 6) (hp : p < M) (h1 : sx s = nI p) (hv : sk_EvX M ek ex ew od vs es p lc la v lc' la') (h0 : v = 0) (hlc : lc' < 2 ^ 30)
    (H : ∀ vl' : sk_F, post (nM, nN, nI (lc' + 1), nI pc, nI b, vs, es, lab, ek, ex, px, py, pz, ew, od, sec, rdo, sk, sx, sy, sz, sw, dp, so, sh, sk_put 200 lc' la' 2, pa, vl', ps, pt, pr)) : wpX_loop post (nM, nN, nI lc, nI pc, nI b, vs, es, lab, ek, ex, px, py, pz, ew, od, sec, rdo, sk, sx, sy, sz, sw, dp, so, sh, la, pa, vl, ps, pt, pr) (nI s) (nI t) (sk_bI r) := by
  have i : vp_in (nI s) 40 := vp_in_nI hs (by omega)
  have c := nI_clamp (show s < 2 ^ 31 by omega)
  unfold wpX_loop wX_loop_25 wX_loop_38
  exact br_t (nI_lt (b := 6) ht (by decide)) ⟨i, sk_xwk (by rw [c]; exact h1) hM HE hp hv (fun vl' => br_t h0 (br_t rfl (sk_xadd hlc (br_t rfl (H vl')))))⟩
theorem sk_xl5c {post : SX → Prop} {s t : Nat} {r : Bool} (ht : t = 6) (H : post (nM, nN, nI lc, nI pc, nI b, vs, es, lab, ek, ex, px, py, pz, ew, od, sec, rdo, sk, sx, sy, sz, sw, dp, so, sh, la, pa, vl, ps, pt, pr)) : wpX_loop post (nM, nN, nI lc, nI pc, nI b, vs, es, lab, ek, ex, px, py, pz, ew, od, sec, rdo, sk, sx, sy, sz, sw, dp, so, sh, la, pa, vl, ps, pt, pr) (nI s) (nI t) (sk_bI r) := by
  subst ht
  exact br_f (by decide) H
theorem sk_tx0 {post : Int32 → SX → Prop} (hN : N ≤ 40) (hM : M ≤ 50) (HE : ∀ e, e < M → sk_node ek ex ey ez ew px py pz od e) : sk_rx0 M N ek ex ew od sk sx sy (fun n step b vs es lc la pc pa ps pt pr => ∀ vl : sk_F, wX_run_46 post n (nI step) nM nN (nI lc) (nI pc) (nI b) vs es lab ek ex px py pz ew od sec rdo sk sx sy sz sw dp so sh la pa vl ps pt pr) := by
  intro n step b vs es lc la pc pa ps pt pr s t r x p v lc' la' hs hstep hb hst hk hx h1 hp h2 E H vl
  have a1 : ¬ (1000000 : Int32) ≤ nI step := nI_ge (b := 1000000) hstep (by decide)
  have a2 : ¬ nI (b + 1) ≤ 0 := nI_nle (by omega) (by omega)
  have c := nI_clamp (show s < 2 ^ 31 by omega)
  have i40 : vp_in (nI s) 40 := vp_in_nI (by omega) (by omega)
  have ib : vp_in (nI b) 30 := vp_in_nI hb (by omega)
  have cb := nI_clamp (show b < 2 ^ 31 by omega)
  refine br_f a1 (br_f a2 (nm_r (nI_pred b) ⟨ib, nm_r (e' := nI s) (by rw [cb]; exact hst.1) ⟨ib, nm_r (e' := nI t) (by rw [cb]; exact hst.2.1) ⟨ib, nm_r (e' := sk_bI r) (by rw [cb]; exact hst.2.2) ⟨i40, nm_r (e' := 0) (by rw [c]; exact hk) ?_⟩⟩⟩⟩))
  exact br_f (by decide) (br_f (by decide) (br_t rfl (sk_xassign hM HE (by omega) hx h1 hp h2 E (fun vl' => (nm_r (nI_1 step) (H vl'))))))
theorem sk_tx1 {post : Int32 → SX → Prop} (hN : N ≤ 40) (hM : M ≤ 50) (HE : ∀ e, e < M → sk_node ek ex ey ez ew px py pz od e) : sk_rx1 M N ek ex ew od sk sx sy sz (fun n step b vs es lc la pc pa ps pt pr => ∀ vl : sk_F, wX_run_46 post n (nI step) nM nN (nI lc) (nI pc) (nI b) vs es lab ek ex px py pz ew od sec rdo sk sx sy sz sw dp so sh la pa vl ps pt pr) := by
  intro n step b vs es lc la pc pa ps pt pr s t r a p q i lc1 la1 v lc' la' hs hstep hb hst hk ha h1 hp h2 hq h3 E1 E hlc H vl
  have a1 : ¬ (1000000 : Int32) ≤ nI step := nI_ge (b := 1000000) hstep (by decide)
  have a2 : ¬ nI (b + 1) ≤ 0 := nI_nle (by omega) (by omega)
  have c := nI_clamp (show s < 2 ^ 31 by omega)
  have i40 : vp_in (nI s) 40 := vp_in_nI (by omega) (by omega)
  have ib : vp_in (nI b) 30 := vp_in_nI hb (by omega)
  have cb := nI_clamp (show b < 2 ^ 31 by omega)
  refine br_f a1 (br_f a2 (nm_r (nI_pred b) ⟨ib, nm_r (e' := nI s) (by rw [cb]; exact hst.1) ⟨ib, nm_r (e' := nI t) (by rw [cb]; exact hst.2.1) ⟨ib, nm_r (e' := sk_bI r) (by rw [cb]; exact hst.2.2) ⟨i40, nm_r (e' := 1) (by rw [c]; exact hk) ?_⟩⟩⟩⟩))
  exact br_f (by decide) (br_f (by decide) (br_f (by decide) (br_t rfl (sk_xstore hM HE (by omega) ha h1 hp h2 hq h3 E1 E hlc (fun vl' => (nm_r (nI_1 step) (H vl')))))))
theorem sk_tx2 {post : Int32 → SX → Prop} (hN : N ≤ 40) (hM : M ≤ 50) (HE : ∀ e, e < M → sk_node ek ex ey ez ew px py pz od e) : sk_rx2 N sk sx sy (fun n step b vs es lc la pc pa ps pt pr => ∀ vl : sk_F, wX_run_46 post n (nI step) nM nN (nI lc) (nI pc) (nI b) vs es lab ek ex px py pz ew od sec rdo sk sx sy sz sw dp so sh la pa vl ps pt pr) := by
  intro n step b vs es lc la pc pa ps pt pr s t r p q hs hstep hb hst hk hp h1 hq h2 hb2 H vl
  have a1 : ¬ (1000000 : Int32) ≤ nI step := nI_ge (b := 1000000) hstep (by decide)
  have a2 : ¬ nI (b + 1) ≤ 0 := nI_nle (by omega) (by omega)
  have c := nI_clamp (show s < 2 ^ 31 by omega)
  have i40 : vp_in (nI s) 40 := vp_in_nI (by omega) (by omega)
  have ib : vp_in (nI b) 30 := vp_in_nI hb (by omega)
  have cb := nI_clamp (show b < 2 ^ 31 by omega)
  refine br_f a1 (br_f a2 (nm_r (nI_pred b) ⟨ib, nm_r (e' := nI s) (by rw [cb]; exact hst.1) ⟨ib, nm_r (e' := nI t) (by rw [cb]; exact hst.2.1) ⟨ib, nm_r (e' := sk_bI r) (by rw [cb]; exact hst.2.2) ⟨i40, nm_r (e' := 2) (by rw [c]; exact hk) ?_⟩⟩⟩⟩))
  exact br_f (by decide) (br_f (by decide) (br_f (by decide) (br_f (by decide) (br_t rfl ⟨i40, sk_xplan (by rw [c]; exact h2) (by omega) hb rfl (sk_nb r) ⟨i40, sk_xplan (by rw [c]; exact h1) (by omega) hb2 rfl (sk_nb r) (nm_r (nI_1 step) (H _ _ _ (fun j hj => ⟨(pk_un (by omega)).trans (pk_un (by omega)), (pk_un (by omega)).trans (pk_un (by omega)), (pk_un (by omega)).trans (pk_un (by omega))⟩) ⟨(pk_un (by omega)).trans pk_us, (pk_un (by omega)).trans pk_us, (pk_un (by omega)).trans pk_us⟩ ⟨pk_us, pk_us, pk_us⟩ vl))⟩⟩))))
theorem sk_tx3a {post : Int32 → SX → Prop} (hN : N ≤ 40) (hM : M ≤ 50) (HE : ∀ e, e < M → sk_node ek ex ey ez ew px py pz od e) : sk_rx3a M N ek ex ew od sec sk sx sy sz (fun n step b vs es lc la pc pa ps pt pr => ∀ vl : sk_F, wX_run_46 post n (nI step) nM nN (nI lc) (nI pc) (nI b) vs es lab ek ex px py pz ew od sec rdo sk sx sy sz sw dp so sh la pa vl ps pt pr) := by
  intro n step b vs es lc la pc pa ps pt pr s t r p q v lc' la' hs hstep hb hst hk hp h1 hq h2 E hsec hz H vl
  have a1 : ¬ (1000000 : Int32) ≤ nI step := nI_ge (b := 1000000) hstep (by decide)
  have a2 : ¬ nI (b + 1) ≤ 0 := nI_nle (by omega) (by omega)
  have c := nI_clamp (show s < 2 ^ 31 by omega)
  have i40 : vp_in (nI s) 40 := vp_in_nI (by omega) (by omega)
  have ib : vp_in (nI b) 30 := vp_in_nI hb (by omega)
  have cb := nI_clamp (show b < 2 ^ 31 by omega)
  refine br_f a1 (br_f a2 (nm_r (nI_pred b) ⟨ib, nm_r (e' := nI s) (by rw [cb]; exact hst.1) ⟨ib, nm_r (e' := nI t) (by rw [cb]; exact hst.2.1) ⟨ib, nm_r (e' := sk_bI r) (by rw [cb]; exact hst.2.2) ⟨i40, nm_r (e' := 3) (by rw [c]; exact hk) ?_⟩⟩⟩⟩))
  exact br_f (by decide) (br_f (by decide) (br_f (by decide) (br_f (by decide) (br_f (by decide) (br_t rfl (sk_xb3a hM HE (by omega) hp h1 (by omega) h2 E hsec hz hb (fun vl' => (nm_r (nI_1 step) (H _ _ _ (fun j hj => ⟨pk_un (by omega), pk_un (by omega), pk_un (by omega)⟩) ⟨pk_us, pk_us, pk_us⟩ vl')))))))))
theorem sk_tx3b {post : Int32 → SX → Prop} (hN : N ≤ 40) (hM : M ≤ 50) (HE : ∀ e, e < M → sk_node ek ex ey ez ew px py pz od e) : sk_rx3b M N ek ex ew od sec sk sx sy sz (fun n step b vs es lc la pc pa ps pt pr => ∀ vl : sk_F, wX_run_46 post n (nI step) nM nN (nI lc) (nI pc) (nI b) vs es lab ek ex px py pz ew od sec rdo sk sx sy sz sw dp so sh la pa vl ps pt pr) := by
  intro n step b vs es lc la pc pa ps pt pr s t r p q z v lc' la' hs hstep hb hst hk hp h1 hq h2 E hsec hzN hz hb2 H vl
  have a1 : ¬ (1000000 : Int32) ≤ nI step := nI_ge (b := 1000000) hstep (by decide)
  have a2 : ¬ nI (b + 1) ≤ 0 := nI_nle (by omega) (by omega)
  have c := nI_clamp (show s < 2 ^ 31 by omega)
  have i40 : vp_in (nI s) 40 := vp_in_nI (by omega) (by omega)
  have ib : vp_in (nI b) 30 := vp_in_nI hb (by omega)
  have cb := nI_clamp (show b < 2 ^ 31 by omega)
  refine br_f a1 (br_f a2 (nm_r (nI_pred b) ⟨ib, nm_r (e' := nI s) (by rw [cb]; exact hst.1) ⟨ib, nm_r (e' := nI t) (by rw [cb]; exact hst.2.1) ⟨ib, nm_r (e' := sk_bI r) (by rw [cb]; exact hst.2.2) ⟨i40, nm_r (e' := 3) (by rw [c]; exact hk) ?_⟩⟩⟩⟩))
  exact br_f (by decide) (br_f (by decide) (br_f (by decide) (br_f (by decide) (br_f (by decide) (br_t rfl (sk_xb3b hM HE (by omega) hp h1 (by omega) h2 E hsec (by omega) hz hb2 (fun vl' => (nm_r (nI_1 step) (H _ _ _ (fun j hj => ⟨(pk_un (by omega)).trans (pk_un (by omega)), (pk_un (by omega)).trans (pk_un (by omega)), (pk_un (by omega)).trans (pk_un (by omega))⟩) ⟨(pk_un (by omega)).trans pk_us, (pk_un (by omega)).trans pk_us, (pk_un (by omega)).trans pk_us⟩ ⟨pk_us, pk_us, pk_us⟩ vl')))))))))
theorem sk_tx3c {post : Int32 → SX → Prop} (hN : N ≤ 40) (hM : M ≤ 50) (HE : ∀ e, e < M → sk_node ek ex ey ez ew px py pz od e) : sk_rx3c M N ek ex ew od sec sk sx sy (fun n step b vs es lc la pc pa ps pt pr => ∀ vl : sk_F, wX_run_46 post n (nI step) nM nN (nI lc) (nI pc) (nI b) vs es lab ek ex px py pz ew od sec rdo sk sx sy sz sw dp so sh la pa vl ps pt pr) := by
  intro n step b vs es lc la pc pa ps pt pr s t r p q v lc' la' hs hstep hb hst hk hp h1 hq h2 E hsec h0 hlc H vl
  have a1 : ¬ (1000000 : Int32) ≤ nI step := nI_ge (b := 1000000) hstep (by decide)
  have a2 : ¬ nI (b + 1) ≤ 0 := nI_nle (by omega) (by omega)
  have c := nI_clamp (show s < 2 ^ 31 by omega)
  have i40 : vp_in (nI s) 40 := vp_in_nI (by omega) (by omega)
  have ib : vp_in (nI b) 30 := vp_in_nI hb (by omega)
  have cb := nI_clamp (show b < 2 ^ 31 by omega)
  refine br_f a1 (br_f a2 (nm_r (nI_pred b) ⟨ib, nm_r (e' := nI s) (by rw [cb]; exact hst.1) ⟨ib, nm_r (e' := nI t) (by rw [cb]; exact hst.2.1) ⟨ib, nm_r (e' := sk_bI r) (by rw [cb]; exact hst.2.2) ⟨i40, nm_r (e' := 3) (by rw [c]; exact hk) ?_⟩⟩⟩⟩))
  exact br_f (by decide) (br_f (by decide) (br_f (by decide) (br_f (by decide) (br_f (by decide) (br_t rfl (sk_xb3c hM HE (by omega) hp h1 (by omega) h2 E hsec h0 hlc hb (fun vl' => (nm_r (nI_1 step) (H _ _ _ (fun j hj => ⟨pk_un (by omega), pk_un (by omega), pk_un (by omega)⟩) ⟨pk_us, pk_us, pk_us⟩ vl')))))))))
theorem sk_tx3d {post : Int32 → SX → Prop} (hN : N ≤ 40) (hM : M ≤ 50) (HE : ∀ e, e < M → sk_node ek ex ey ez ew px py pz od e) : sk_rx3d M N ek ex ew od sec sk sx sy sz (fun n step b vs es lc la pc pa ps pt pr => ∀ vl : sk_F, wX_run_46 post n (nI step) nM nN (nI lc) (nI pc) (nI b) vs es lab ek ex px py pz ew od sec rdo sk sx sy sz sw dp so sh la pa vl ps pt pr) := by
  intro n step b vs es lc la pc pa ps pt pr s t r p q v lc' la' hs hstep hb hst hk hp h1 hq h2 E hsec h0 hz hlc H vl
  have a1 : ¬ (1000000 : Int32) ≤ nI step := nI_ge (b := 1000000) hstep (by decide)
  have a2 : ¬ nI (b + 1) ≤ 0 := nI_nle (by omega) (by omega)
  have c := nI_clamp (show s < 2 ^ 31 by omega)
  have i40 : vp_in (nI s) 40 := vp_in_nI (by omega) (by omega)
  have ib : vp_in (nI b) 30 := vp_in_nI hb (by omega)
  have cb := nI_clamp (show b < 2 ^ 31 by omega)
  refine br_f a1 (br_f a2 (nm_r (nI_pred b) ⟨ib, nm_r (e' := nI s) (by rw [cb]; exact hst.1) ⟨ib, nm_r (e' := nI t) (by rw [cb]; exact hst.2.1) ⟨ib, nm_r (e' := sk_bI r) (by rw [cb]; exact hst.2.2) ⟨i40, nm_r (e' := 3) (by rw [c]; exact hk) ?_⟩⟩⟩⟩))
  exact br_f (by decide) (br_f (by decide) (br_f (by decide) (br_f (by decide) (br_f (by decide) (br_t rfl (sk_xb3d (q := q) hM HE (by omega) hp h1 (by omega) h2 E hsec h0 hz hlc (fun vl' => (nm_r (nI_1 step) (H vl')))))))))
theorem sk_tx3e {post : Int32 → SX → Prop} (hN : N ≤ 40) (hM : M ≤ 50) (HE : ∀ e, e < M → sk_node ek ex ey ez ew px py pz od e) : sk_rx3e M N ek ex ew od sec sk sx sy sz (fun n step b vs es lc la pc pa ps pt pr => ∀ vl : sk_F, wX_run_46 post n (nI step) nM nN (nI lc) (nI pc) (nI b) vs es lab ek ex px py pz ew od sec rdo sk sx sy sz sw dp so sh la pa vl ps pt pr) := by
  intro n step b vs es lc la pc pa ps pt pr s t r p q z v lc' la' hs hstep hb hst hk hp h1 hq h2 E hsec h0 hzN hz hlc H vl
  have a1 : ¬ (1000000 : Int32) ≤ nI step := nI_ge (b := 1000000) hstep (by decide)
  have a2 : ¬ nI (b + 1) ≤ 0 := nI_nle (by omega) (by omega)
  have c := nI_clamp (show s < 2 ^ 31 by omega)
  have i40 : vp_in (nI s) 40 := vp_in_nI (by omega) (by omega)
  have ib : vp_in (nI b) 30 := vp_in_nI hb (by omega)
  have cb := nI_clamp (show b < 2 ^ 31 by omega)
  refine br_f a1 (br_f a2 (nm_r (nI_pred b) ⟨ib, nm_r (e' := nI s) (by rw [cb]; exact hst.1) ⟨ib, nm_r (e' := nI t) (by rw [cb]; exact hst.2.1) ⟨ib, nm_r (e' := sk_bI r) (by rw [cb]; exact hst.2.2) ⟨i40, nm_r (e' := 3) (by rw [c]; exact hk) ?_⟩⟩⟩⟩))
  exact br_f (by decide) (br_f (by decide) (br_f (by decide) (br_f (by decide) (br_f (by decide) (br_t rfl (sk_xb3e (q := q) hM HE (by omega) hp h1 (by omega) h2 E hsec h0 (by omega) hz hlc hb (fun vl' => (nm_r (nI_1 step) (H _ _ _ (fun j hj => ⟨pk_un (by omega), pk_un (by omega), pk_un (by omega)⟩) ⟨pk_us, pk_us, pk_us⟩ vl')))))))))
theorem sk_tx4a {post : Int32 → SX → Prop} (hN : N ≤ 40) (hM : M ≤ 50) (HE : ∀ e, e < M → sk_node ek ex ey ez ew px py pz od e) : sk_rx4a N sk sx sy (fun n step b vs es lc la pc pa ps pt pr => ∀ vl : sk_F, wX_run_46 post n (nI step) nM nN (nI lc) (nI pc) (nI b) vs es lab ek ex px py pz ew od sec rdo sk sx sy sz sw dp so sh la pa vl ps pt pr) := by
  intro n step b vs es lc la pc pa ps pt pr s t r x q hs hstep hb hst hk hx h1 hq h2 ht hb2 H vl
  have a1 : ¬ (1000000 : Int32) ≤ nI step := nI_ge (b := 1000000) hstep (by decide)
  have a2 : ¬ nI (b + 1) ≤ 0 := nI_nle (by omega) (by omega)
  have c := nI_clamp (show s < 2 ^ 31 by omega)
  have i40 : vp_in (nI s) 40 := vp_in_nI (by omega) (by omega)
  have ib : vp_in (nI b) 30 := vp_in_nI hb (by omega)
  have cb := nI_clamp (show b < 2 ^ 31 by omega)
  refine br_f a1 (br_f a2 (nm_r (nI_pred b) ⟨ib, nm_r (e' := nI s) (by rw [cb]; exact hst.1) ⟨ib, nm_r (e' := nI t) (by rw [cb]; exact hst.2.1) ⟨ib, nm_r (e' := sk_bI r) (by rw [cb]; exact hst.2.2) ⟨i40, nm_r (e' := 4) (by rw [c]; exact hk) ?_⟩⟩⟩⟩))
  exact br_f (by decide) (br_f (by decide) (br_f (by decide) (br_f (by decide) (br_f (by decide) (br_f (by decide) (br_t rfl ⟨i40, br_f (by rw [c, h1]; exact nI_ge ht (by omega)) (sk_xpt (by omega) (by omega) h2 hb2 (nm_r (nI_1 step) (H _ _ _ (fun j hj => ⟨(pk_un (by omega)).trans (pk_un (by omega)), (pk_un (by omega)).trans (pk_un (by omega)), (pk_un (by omega)).trans (pk_un (by omega))⟩) ⟨(pk_un (by omega)).trans pk_us, (pk_un (by omega)).trans pk_us, (pk_un (by omega)).trans pk_us⟩ ⟨pk_us, pk_us, pk_us⟩ vl)))⟩))))))
theorem sk_tx4b {post : Int32 → SX → Prop} (hN : N ≤ 40) (hM : M ≤ 50) (HE : ∀ e, e < M → sk_node ek ex ey ez ew px py pz od e) : sk_rx4b N sk sx (fun n step b vs es lc la pc pa ps pt pr => ∀ vl : sk_F, wX_run_46 post n (nI step) nM nN (nI lc) (nI pc) (nI b) vs es lab ek ex px py pz ew od sec rdo sk sx sy sz sw dp so sh la pa vl ps pt pr) := by
  intro n step b vs es lc la pc pa ps pt pr s t r x hs hstep hb hst hk hx h1 ht H vl
  have a1 : ¬ (1000000 : Int32) ≤ nI step := nI_ge (b := 1000000) hstep (by decide)
  have a2 : ¬ nI (b + 1) ≤ 0 := nI_nle (by omega) (by omega)
  have c := nI_clamp (show s < 2 ^ 31 by omega)
  have i40 : vp_in (nI s) 40 := vp_in_nI (by omega) (by omega)
  have ib : vp_in (nI b) 30 := vp_in_nI hb (by omega)
  have cb := nI_clamp (show b < 2 ^ 31 by omega)
  refine br_f a1 (br_f a2 (nm_r (nI_pred b) ⟨ib, nm_r (e' := nI s) (by rw [cb]; exact hst.1) ⟨ib, nm_r (e' := nI t) (by rw [cb]; exact hst.2.1) ⟨ib, nm_r (e' := sk_bI r) (by rw [cb]; exact hst.2.2) ⟨i40, nm_r (e' := 4) (by rw [c]; exact hk) ?_⟩⟩⟩⟩))
  exact br_f (by decide) (br_f (by decide) (br_f (by decide) (br_f (by decide) (br_f (by decide) (br_f (by decide) (br_t rfl ⟨i40, br_t (by rw [c, h1, ht]; exact nI_le (Nat.le_refl _) (by omega)) (nm_r (nI_1 step) (H vl))⟩))))))
theorem sk_tx5a {post : Int32 → SX → Prop} (hN : N ≤ 40) (hM : M ≤ 50) (HE : ∀ e, e < M → sk_node ek ex ey ez ew px py pz od e) : sk_rx5a M N ek ex ew od sk sx sy (fun n step b vs es lc la pc pa ps pt pr => ∀ vl : sk_F, wX_run_46 post n (nI step) nM nN (nI lc) (nI pc) (nI b) vs es lab ek ex px py pz ew od sec rdo sk sx sy sz sw dp so sh la pa vl ps pt pr) := by
  intro n step b vs es lc la pc pa ps pt pr s t r p q v lc' la' hs hstep hb hst hk hp h1 ht E hlc hq h2 h0 hb2 H vl
  have a1 : ¬ (1000000 : Int32) ≤ nI step := nI_ge (b := 1000000) hstep (by decide)
  have a2 : ¬ nI (b + 1) ≤ 0 := nI_nle (by omega) (by omega)
  have c := nI_clamp (show s < 2 ^ 31 by omega)
  have i40 : vp_in (nI s) 40 := vp_in_nI (by omega) (by omega)
  have ib : vp_in (nI b) 30 := vp_in_nI hb (by omega)
  have cb := nI_clamp (show b < 2 ^ 31 by omega)
  refine br_f a1 (br_f a2 (nm_r (nI_pred b) ⟨ib, nm_r (e' := nI s) (by rw [cb]; exact hst.1) ⟨ib, nm_r (e' := nI t) (by rw [cb]; exact hst.2.1) ⟨ib, nm_r (e' := sk_bI r) (by rw [cb]; exact hst.2.2) ⟨i40, nm_r (e' := 5) (by rw [c]; exact hk) ?_⟩⟩⟩⟩))
  exact br_f (by decide) (br_f (by decide) (br_f (by decide) (br_f (by decide) (br_f (by decide) (br_f (by decide) (br_f (by decide) (br_t rfl (sk_xl5a hM HE (by omega) ht hp h1 (by omega) h2 E h0 hlc hb2 (fun vl' => (nm_r (nI_1 step) (H _ _ _ (fun j hj => ⟨(pk_un (by omega)).trans (pk_un (by omega)), (pk_un (by omega)).trans (pk_un (by omega)), (pk_un (by omega)).trans (pk_un (by omega))⟩) ⟨(pk_un (by omega)).trans pk_us, (pk_un (by omega)).trans pk_us, (pk_un (by omega)).trans pk_us⟩ ⟨pk_us, pk_us, pk_us⟩ vl')))))))))))
theorem sk_tx5b {post : Int32 → SX → Prop} (hN : N ≤ 40) (hM : M ≤ 50) (HE : ∀ e, e < M → sk_node ek ex ey ez ew px py pz od e) : sk_rx5b M N ek ex ew od sk sx (fun n step b vs es lc la pc pa ps pt pr => ∀ vl : sk_F, wX_run_46 post n (nI step) nM nN (nI lc) (nI pc) (nI b) vs es lab ek ex px py pz ew od sec rdo sk sx sy sz sw dp so sh la pa vl ps pt pr) := by
  intro n step b vs es lc la pc pa ps pt pr s t r p v lc' la' hs hstep hb hst hk hp h1 ht E hlc h0 H vl
  have a1 : ¬ (1000000 : Int32) ≤ nI step := nI_ge (b := 1000000) hstep (by decide)
  have a2 : ¬ nI (b + 1) ≤ 0 := nI_nle (by omega) (by omega)
  have c := nI_clamp (show s < 2 ^ 31 by omega)
  have i40 : vp_in (nI s) 40 := vp_in_nI (by omega) (by omega)
  have ib : vp_in (nI b) 30 := vp_in_nI hb (by omega)
  have cb := nI_clamp (show b < 2 ^ 31 by omega)
  refine br_f a1 (br_f a2 (nm_r (nI_pred b) ⟨ib, nm_r (e' := nI s) (by rw [cb]; exact hst.1) ⟨ib, nm_r (e' := nI t) (by rw [cb]; exact hst.2.1) ⟨ib, nm_r (e' := sk_bI r) (by rw [cb]; exact hst.2.2) ⟨i40, nm_r (e' := 5) (by rw [c]; exact hk) ?_⟩⟩⟩⟩))
  exact br_f (by decide) (br_f (by decide) (br_f (by decide) (br_f (by decide) (br_f (by decide) (br_f (by decide) (br_f (by decide) (br_t rfl (sk_xl5b hM HE (by omega) ht hp h1 E h0 hlc (fun vl' => (nm_r (nI_1 step) (H vl')))))))))))
theorem sk_tx5c {post : Int32 → SX → Prop} (hN : N ≤ 40) (hM : M ≤ 50) (HE : ∀ e, e < M → sk_node ek ex ey ez ew px py pz od e) : sk_rx5c N sk (fun n step b vs es lc la pc pa ps pt pr => ∀ vl : sk_F, wX_run_46 post n (nI step) nM nN (nI lc) (nI pc) (nI b) vs es lab ek ex px py pz ew od sec rdo sk sx sy sz sw dp so sh la pa vl ps pt pr) := by
  intro n step b vs es lc la pc pa ps pt pr s t r hs hstep hb hst hk ht H vl
  have a1 : ¬ (1000000 : Int32) ≤ nI step := nI_ge (b := 1000000) hstep (by decide)
  have a2 : ¬ nI (b + 1) ≤ 0 := nI_nle (by omega) (by omega)
  have c := nI_clamp (show s < 2 ^ 31 by omega)
  have i40 : vp_in (nI s) 40 := vp_in_nI (by omega) (by omega)
  have ib : vp_in (nI b) 30 := vp_in_nI hb (by omega)
  have cb := nI_clamp (show b < 2 ^ 31 by omega)
  refine br_f a1 (br_f a2 (nm_r (nI_pred b) ⟨ib, nm_r (e' := nI s) (by rw [cb]; exact hst.1) ⟨ib, nm_r (e' := nI t) (by rw [cb]; exact hst.2.1) ⟨ib, nm_r (e' := sk_bI r) (by rw [cb]; exact hst.2.2) ⟨i40, nm_r (e' := 5) (by rw [c]; exact hk) ?_⟩⟩⟩⟩))
  exact br_f (by decide) (br_f (by decide) (br_f (by decide) (br_f (by decide) (br_f (by decide) (br_f (by decide) (br_f (by decide) (br_t rfl (sk_xl5c ht (nm_r (nI_1 step) (H vl))))))))))
theorem sk_tx6 {post : Int32 → SX → Prop} (hN : N ≤ 40) (hM : M ≤ 50) (HE : ∀ e, e < M → sk_node ek ex ey ez ew px py pz od e) : sk_rx6 M N ek ex ew od sk sx (fun n step b vs es lc la pc pa ps pt pr => ∀ vl : sk_F, wX_run_46 post n (nI step) nM nN (nI lc) (nI pc) (nI b) vs es lab ek ex px py pz ew od sec rdo sk sx sy sz sw dp so sh la pa vl ps pt pr) := by
  intro n step b vs es lc la pc pa ps pt pr s t r p v lc' la' hs hstep hb hst hk hp h1 E hr hpc H vl
  have a1 : ¬ (1000000 : Int32) ≤ nI step := nI_ge (b := 1000000) hstep (by decide)
  have a2 : ¬ nI (b + 1) ≤ 0 := nI_nle (by omega) (by omega)
  have c := nI_clamp (show s < 2 ^ 31 by omega)
  have i40 : vp_in (nI s) 40 := vp_in_nI (by omega) (by omega)
  have ib : vp_in (nI b) 30 := vp_in_nI hb (by omega)
  have cb := nI_clamp (show b < 2 ^ 31 by omega)
  subst hr
  refine br_f a1 (br_f a2 (nm_r (nI_pred b) ⟨ib, nm_r (e' := nI s) (by rw [cb]; exact hst.1) ⟨ib, nm_r (e' := nI t) (by rw [cb]; exact hst.2.1) ⟨ib, nm_r (e' := sk_bI true) (by rw [cb]; exact hst.2.2) ⟨i40, nm_r (e' := 6) (by rw [c]; exact hk) ?_⟩⟩⟩⟩))
  exact br_f (by decide) (br_t (by decide) (sk_xprint hM HE (by omega) hp h1 E hpc (fun vl' => (nm_r (nI_1 step) (H vl')))))
theorem sk_tx {post : Int32 → SX → Prop} (hN : N ≤ 40) (hM : M ≤ 50) (HE : ∀ e, e < M → sk_node ek ex ey ez ew px py pz od e) : sk_RXs M N ek ex ew od sec sk sx sy sz (fun n step b vs es lc la pc pa ps pt pr => ∀ vl : sk_F, wX_run_46 post n (nI step) nM nN (nI lc) (nI pc) (nI b) vs es lab ek ex px py pz ew od sec rdo sk sx sy sz sw dp so sh la pa vl ps pt pr) :=
  ⟨sk_tx0 hN hM HE, sk_tx1 hN hM HE, sk_tx2 hN hM HE, sk_tx3a hN hM HE, sk_tx3b hN hM HE, sk_tx3c hN hM HE, sk_tx3d hN hM HE, sk_tx3e hN hM HE, sk_tx4a hN hM HE, sk_tx4b hN hM HE, sk_tx5a hN hM HE, sk_tx5b hN hM HE, sk_tx5c hN hM HE, sk_tx6 hN hM HE⟩
end
