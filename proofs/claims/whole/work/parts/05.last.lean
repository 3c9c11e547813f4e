/-! 05: what is secret; how the tables of expressions and statements last when one is made -/
def sk_pt (x : Int32) (e : Nat) : Prop := x = -1 ∨ ∃ p, p < e ∧ x = nI p
def sk_ps (sec : sk_F) (x : Int32) : Prop := ¬ x = -1 ∧ ¬ sec x.toNatClampNeg = 0
def sk_pr (rdo : sk_F) (x : Int32) : Prop := x = -1 ∨ ¬ rdo x.toNatClampNeg = 0
/-- expression e is secret, and reads at public places alone, as its parts say -/
def sk_se (lab ek ex px py pz sec rdo : sk_F) (e : Nat) : Prop :=
  (¬ sec e = 0 ↔ ((ek e = 1 ∧ ¬ lab (ex e).toNatClampNeg = 0) ∨ (ek e = 2 ∧ ¬ lab (8 + ex e).toNatClampNeg = 0) ∨ sk_ps sec (px e) ∨ sk_ps sec (py e) ∨ sk_ps sec (pz e))) ∧
  (¬ rdo e = 0 ↔ ((ek e = 2 → ¬ sk_ps sec (py e)) ∧ sk_pr rdo (px e) ∧ sk_pr rdo (py e) ∧ sk_pr rdo (pz e)))
section
variable {M N : Nat} {ek ex ey ez ew px py pz od lab sec rdo sk sx sy sz sw dp so sh : sk_F} {ek' ex' ey' ez' ew' px' py' pz' od' sec' rdo' sk' sx' sy' sz' sw' dp' so' sh' : sk_F}
theorem sk_node_pt {e : Nat} (h : sk_node ek ex ey ez ew px py pz od e) : sk_pt (px e) e ∧ sk_pt (py e) e ∧ sk_pt (pz e) e := by
  rcases h.2 with ⟨_, _, a, b, c⟩ | ⟨_, _, a, b, c, _⟩ | ⟨_, a, c, _, p, _, hp, _, _, b, _⟩ | ⟨_, b, c, p, hp, _, a, _⟩ | ⟨_, p, q, r, hp, hq, hr, _, _, _, a, b, c, _⟩ | ⟨_, c, p, q, hp, hq, _, _, a, b, _⟩
  · exact ⟨Or.inl a, Or.inl b, Or.inl c⟩
  · exact ⟨Or.inl a, Or.inl b, Or.inl c⟩
  · exact ⟨Or.inl a, Or.inr ⟨p, hp, b⟩, Or.inl c⟩
  · exact ⟨Or.inr ⟨p, hp, a⟩, Or.inl b, Or.inl c⟩
  · exact ⟨Or.inr ⟨p, hp, a⟩, Or.inr ⟨q, hq, b⟩, Or.inr ⟨r, hr, c⟩⟩
  · exact ⟨Or.inr ⟨p, hp, a⟩, Or.inr ⟨q, hq, b⟩, Or.inl c⟩
theorem sk_bin_ge {e : Nat} (h : sk_bin ek e) : 3 ≤ ek e := by
  obtain ⟨k, h1, h2, h3⟩ := h
  rw [h3]
  exact nI_le (a := 3) h1 (by omega)
/-- the parts as Y asks for them -/
theorem sk_node_v {e : Nat} (h : sk_node ek ex ey ez ew px py pz od e) :
    (3 ≤ ek e → px e = ex e) ∧ (¬ 3 ≤ ek e → px e = -1) ∧ ((ek e = 2 ∨ (3 ≤ ek e ∧ ¬ ek e = 13)) → py e = ey e) ∧ (¬ (ek e = 2 ∨ (3 ≤ ek e ∧ ¬ ek e = 13)) → py e = -1) ∧ (ek e = 14 → pz e = ez e) ∧ (¬ ek e = 14 → pz e = -1) := by
  rcases h.2 with ⟨k, _, a, b, c⟩ | ⟨k, _, a, b, c, _⟩ | ⟨k, a, c, _, p, _, hp, _, x2, b, _⟩ | ⟨k, b, c, p, hp, x1, a, _⟩ | ⟨k, p, q, r, hp, hq, hr, x1, x2, x3, a, b, c, _⟩ | ⟨k, c, p, q, hp, hq, x1, x2, a, b, _⟩
  · rw [k, a, b, c]
    exact ⟨fun z => absurd z (by decide), fun _ => rfl, fun z => absurd z (by decide), fun _ => rfl, fun z => absurd z (by decide), fun _ => rfl⟩
  · rw [k, a, b, c]
    exact ⟨fun z => absurd z (by decide), fun _ => rfl, fun z => absurd z (by decide), fun _ => rfl, fun z => absurd z (by decide), fun _ => rfl⟩
  · rw [k, a, b, c, x2]
    exact ⟨fun z => absurd z (by decide), fun _ => rfl, fun _ => rfl, fun z => absurd (Or.inl rfl) z, fun z => absurd z (by decide), fun _ => rfl⟩
  · rw [k, a, b, c, x1]
    exact ⟨fun _ => rfl, fun z => absurd (by decide) z, fun z => absurd z (by decide), fun _ => rfl, fun z => absurd z (by decide), fun _ => rfl⟩
  · rw [k, a, b, c, x1, x2, x3]
    exact ⟨fun _ => rfl, fun z => absurd (by decide) z, fun _ => rfl, fun z => absurd (by decide) z, fun _ => rfl, fun z => absurd rfl z⟩
  · obtain ⟨_, _, n2, n13, n14⟩ := sk_bin_ne k
    have g3 := sk_bin_ge k
    rw [a, b, c, x1, x2]
    exact ⟨fun _ => rfl, fun z => absurd g3 z, fun _ => rfl, fun z => absurd (Or.inr ⟨g3, n13⟩) z, fun z => absurd z n14, fun _ => rfl⟩
theorem sk_ps_up {x : Int32} {e : Nat} (h : sk_pt x e) (he : e ≤ 50) (ag : ∀ j, j < e → sec' j = sec j) : sk_ps sec' x ↔ sk_ps sec x := by
  rcases h with h | ⟨p, hp, h⟩
  · unfold sk_ps
    exact ⟨fun z => absurd h z.1, fun z => absurd h z.1⟩
  · unfold sk_ps
    rw [h, nI_clamp (by omega), ag p hp]
theorem sk_pr_up {x : Int32} {e : Nat} (h : sk_pt x e) (he : e ≤ 50) (ag : ∀ j, j < e → rdo' j = rdo j) : sk_pr rdo' x ↔ sk_pr rdo x := by
  rcases h with h | ⟨p, hp, h⟩
  · unfold sk_pr
    exact ⟨fun _ => Or.inl h, fun _ => Or.inl h⟩
  · unfold sk_pr
    rw [h, nI_clamp (by omega), ag p hp]
/-- an expression's own equation lasts when nothing up to it changes -/
theorem sk_se_up {e : Nat} (h : sk_se lab ek ex px py pz sec rdo e) (he : e ≤ 50) (hp : sk_pt (px e) e ∧ sk_pt (py e) e ∧ sk_pt (pz e) e)
    (ag : ∀ j, j < e + 1 → ek' j = ek j ∧ ex' j = ex j ∧ px' j = px j ∧ py' j = py j ∧ pz' j = pz j ∧ sec' j = sec j ∧ rdo' j = rdo j) : sk_se lab ek' ex' px' py' pz' sec' rdo' e := by
  obtain ⟨a1, a2, a3, a4, a5, a6, a7⟩ := ag e (by omega)
  unfold sk_se
  rw [a1, a2, a3, a4, a5, a6, a7]
  have as : ∀ j, j < e → sec' j = sec j := fun j hj => (ag j (by omega)).2.2.2.2.2.1
  have ar : ∀ j, j < e → rdo' j = rdo j := fun j hj => (ag j (by omega)).2.2.2.2.2.2
  rw [sk_ps_up hp.1 he as, sk_ps_up hp.2.1 he as, sk_ps_up hp.2.2 he as, sk_pr_up hp.1 he ar, sk_pr_up hp.2.1 he ar, sk_pr_up hp.2.2 he ar]
  exact h
theorem sk_seg_up {b p e : Nat} (hp : p ≤ e) (hb : b + sk_w ew p ≤ 30 * (e + 1)) (hw : 30 * p + sk_w ew p ≤ 30 * (e + 1)) (aw : ew' p = ew p) (ag : ∀ j, j < 30 * (e + 1) → od' j = od j) (h : sk_seg ew od b p) : sk_seg ew' od' b p := by
  intro j hj
  have e1 : sk_w ew' p = sk_w ew p := by unfold sk_w; rw [aw]
  rw [e1] at hj
  rw [ag _ (by omega), ag _ (by omega)]
  exact h j hj
/-- a node lasts when nothing up to it changes -/
theorem sk_node_up {e : Nat} (h : sk_node ek ex ey ez ew px py pz od e) (ag : ∀ j, j < e + 1 → ek' j = ek j ∧ ex' j = ex j ∧ ey' j = ey j ∧ ez' j = ez j ∧ ew' j = ew j ∧ px' j = px j ∧ py' j = py j ∧ pz' j = pz j)
    (ao : ∀ j, j < 30 * (e + 1) → od' j = od j) : sk_node ek' ex' ey' ez' ew' px' py' pz' od' e := by
  obtain ⟨a1, a2, a3, a4, a5, a6, a7, a8⟩ := ag e (by omega)
  have ew1 : ∀ p, p < e + 1 → sk_w ew' p = sk_w ew p := fun p hp => by unfold sk_w; rw [(ag p hp).2.2.2.2.1]
  have eb : sk_bin ek' e ↔ sk_bin ek e := by unfold sk_bin; rw [a1]
  obtain ⟨⟨h1, h2, h3⟩, hc⟩ := h
  refine ⟨⟨by rw [ew1 e (by omega), a5]; exact h1, by rw [ew1 e (by omega)]; exact h2, by rw [ew1 e (by omega), ao _ (by omega)]; exact h3⟩, ?_⟩
  rw [a1, a2, a3, a4, a6, a7, a8, eb, ew1 e (by omega)]
  rcases hc with hc | hc | ⟨k, a, c, x, p, hx, hp, x1, x2, b, hw, s0⟩ | ⟨k, b, c, p, hp, x1, a, hw, s0⟩ | ⟨k, p, q, r, hp, hq, hr, x1, x2, x3, a, b, c, hw, s0, s1, s2⟩ | ⟨k, c, p, q, hp, hq, x1, x2, a, b, hw, s0, s1⟩
  · exact Or.inl hc
  · exact Or.inr (Or.inl hc)
  · refine Or.inr (Or.inr (Or.inl ⟨k, a, c, x, p, hx, hp, x1, x2, b, by rw [ew1 p (by omega)]; exact hw, ?_⟩))
    exact sk_seg_up (e := e) (by omega) (by omega) (by omega) (ag p (by omega)).2.2.2.2.1 ao s0
  · refine Or.inr (Or.inr (Or.inr (Or.inl ⟨k, b, c, p, hp, x1, a, by rw [ew1 p (by omega)]; exact hw, ?_⟩)))
    exact sk_seg_up (e := e) (by omega) (by omega) (by omega) (ag p (by omega)).2.2.2.2.1 ao s0
  · refine Or.inr (Or.inr (Or.inr (Or.inr (Or.inl ⟨k, p, q, r, hp, hq, hr, x1, x2, x3, a, b, c, ?_⟩))))
    rw [ew1 p (by omega), ew1 q (by omega), ew1 r (by omega)]
    exact ⟨hw, sk_seg_up (e := e) (by omega) (by omega) (by omega) (ag p (by omega)).2.2.2.2.1 ao s0, sk_seg_up (e := e) (by omega) (by omega) (by omega) (ag q (by omega)).2.2.2.2.1 ao s1, sk_seg_up (e := e) (by omega) (by omega) (by omega) (ag r (by omega)).2.2.2.2.1 ao s2⟩
  · refine Or.inr (Or.inr (Or.inr (Or.inr (Or.inr ⟨k, c, p, q, hp, hq, x1, x2, a, b, ?_⟩))))
    rw [ew1 p (by omega), ew1 q (by omega)]
    exact ⟨hw, sk_seg_up (e := e) (by omega) (by omega) (by omega) (ag p (by omega)).2.2.2.2.1 ao s0, sk_seg_up (e := e) (by omega) (by omega) (by omega) (ag q (by omega)).2.2.2.2.1 ao s1⟩
/-- a statement lasts when an expression is made -/
theorem sk_stm_upE {s : Nat} (h : sk_stm M ew sk sx sy sz sw dp s) (ag : ∀ j, j < M → ew' j = ew j) : sk_stm (M + 1) ew' sk sx sy sz sw dp s := by
  have ew1 : ∀ p, p < M → sk_w ew' p = sk_w ew p := fun p hp => by unfold sk_w; rw [ag p hp]
  refine ⟨h.1, ?_⟩
  rcases h.2 with ⟨k, x, p, hx, hp, r⟩ | ⟨k, a, p, q, ha, hp, hq, x1, x2, x3, r⟩ | h2 | ⟨k, p, q, hp, r⟩ | h2 | ⟨k, p, q, hp, r⟩ | ⟨k, p, hp, r⟩
  · exact Or.inl ⟨k, x, p, hx, by omega, r⟩
  · exact Or.inr (Or.inl ⟨k, a, p, q, ha, by omega, by omega, x1, x2, x3, by rw [ew1 p hp, ew1 q hq]; exact r⟩)
  · exact Or.inr (Or.inr (Or.inl h2))
  · exact Or.inr (Or.inr (Or.inr (Or.inl ⟨k, p, q, by omega, r⟩)))
  · exact Or.inr (Or.inr (Or.inr (Or.inr (Or.inl h2))))
  · exact Or.inr (Or.inr (Or.inr (Or.inr (Or.inr (Or.inl ⟨k, p, q, by omega, r⟩)))))
  · exact Or.inr (Or.inr (Or.inr (Or.inr (Or.inr (Or.inr ⟨k, p, by omega, r⟩)))))
/-- and when a later statement is made -/
theorem sk_stm_upS {s : Nat} (h : sk_stm M ew sk sx sy sz sw dp s) (ag : ∀ j, j < s + 1 → sk' j = sk j ∧ sx' j = sx j ∧ sy' j = sy j ∧ sz' j = sz j ∧ sw' j = sw j ∧ dp' j = dp j) : sk_stm M ew sk' sx' sy' sz' sw' dp' s := by
  obtain ⟨a1, a2, a3, a4, a5, a6⟩ := ag s (by omega)
  have e1 : ∀ p, p < s + 1 → sk_w sw' p = sk_w sw p := fun p hp => by unfold sk_w; rw [(ag p hp).2.2.2.2.1]
  have e2 : ∀ p, p < s + 1 → sk_w dp' p = sk_w dp p := fun p hp => by unfold sk_w; rw [(ag p hp).2.2.2.2.2]
  unfold sk_stm
  rw [a1, a2, a3, a4, a5, a6, e1 s (by omega), e2 s (by omega)]
  refine ⟨h.1, ?_⟩
  rcases h.2 with h2 | h2 | ⟨k, p, q, hp, hq, r⟩ | ⟨k, p, q, hp, hq, x1, x2, d, w, r⟩ | ⟨k, x, q, hx, hq, r⟩ | ⟨k, p, q, hp, hq, r⟩ | h2
  · exact Or.inl h2
  · exact Or.inr (Or.inl h2)
  · exact Or.inr (Or.inr (Or.inl ⟨k, p, q, hp, hq, by rw [e1 p (by omega), e1 q (by omega), e2 p (by omega), e2 q (by omega)]; exact r⟩))
  · refine Or.inr (Or.inr (Or.inr (Or.inl ⟨k, p, q, hp, hq, x1, x2, by rw [e2 q (by omega)]; exact d, by rw [e1 q (by omega)]; exact w, ?_⟩)))
    rcases r with r | ⟨z, hz, r⟩
    · exact Or.inl r
    · exact Or.inr ⟨z, hz, by rw [e1 q (by omega), e1 z (by omega), e2 z (by omega)]; exact r⟩
  · exact Or.inr (Or.inr (Or.inr (Or.inr (Or.inl ⟨k, x, q, hx, hq, by rw [e1 q (by omega), e2 q (by omega)]; exact r⟩))))
  · exact Or.inr (Or.inr (Or.inr (Or.inr (Or.inr (Or.inl ⟨k, p, q, hp, hq, by rw [e1 q (by omega), e2 q (by omega)]; exact r⟩)))))
  · exact Or.inr (Or.inr (Or.inr (Or.inr (Or.inr (Or.inr h2)))))
theorem sk_in_up {x : Int32} {s : Nat} {hd : Bool} (h : sk_pt x s) (hs : s ≤ 50) (ag : ∀ j, j < s → so' j = so j ∧ sh' j = sh j) : sk_in so' sh' hd x ↔ sk_in so sh hd x := by
  rcases h with h | ⟨p, hp, h⟩
  · unfold sk_in
    exact ⟨fun _ => Or.inl h, fun _ => Or.inl h⟩
  · unfold sk_in
    rw [h, nI_clamp (by omega), (ag p hp).1, (ag p hp).2]
theorem sk_sf_0 {hd : Bool} {s : Nat} (h : sk s = 0) : sk_sf lab sec rdo sk sx sy sz so sh hd s ↔ (¬ rdo (sy s).toNatClampNeg = 0 ∧ (¬ lab (sx s).toNatClampNeg = 0 ∨ (hd = false ∧ sec (sy s).toNatClampNeg = 0))) := by
  unfold sk_sf
  rw [h, if_pos rfl]
theorem sk_sf_1 {hd : Bool} {s : Nat} (h : sk s = 1) : sk_sf lab sec rdo sk sx sy sz so sh hd s ↔ (¬ rdo (sy s).toNatClampNeg = 0 ∧ ¬ rdo (sz s).toNatClampNeg = 0 ∧ sec (sy s).toNatClampNeg = 0 ∧ (¬ lab (8 + sx s).toNatClampNeg = 0 ∨ (hd = false ∧ sec (sz s).toNatClampNeg = 0))) := by
  unfold sk_sf
  rw [h, if_neg (by decide), if_pos rfl]
theorem sk_sf_2 {hd : Bool} {s : Nat} (h : sk s = 2) : sk_sf lab sec rdo sk sx sy sz so sh hd s ↔ (sk_in so sh hd (sx s) ∧ sk_in so sh hd (sy s)) := by
  unfold sk_sf
  rw [h, if_neg (by decide), if_neg (by decide), if_pos rfl]
theorem sk_sf_3 {hd : Bool} {s : Nat} (h : sk s = 3) : sk_sf lab sec rdo sk sx sy sz so sh hd s ↔ (¬ rdo (sx s).toNatClampNeg = 0 ∧ sk_in so sh (hd || decide (¬ sec (sx s).toNatClampNeg = 0)) (sy s) ∧ sk_in so sh (hd || decide (¬ sec (sx s).toNatClampNeg = 0)) (sz s)) := by
  unfold sk_sf
  rw [h, if_neg (by decide), if_neg (by decide), if_neg (by decide), if_pos rfl]
theorem sk_sf_4 {hd : Bool} {s : Nat} (h : sk s = 4) : sk_sf lab sec rdo sk sx sy sz so sh hd s ↔ (sk_in so sh hd (sy s)) := by
  unfold sk_sf
  rw [h, if_neg (by decide), if_neg (by decide), if_neg (by decide), if_neg (by decide), if_pos rfl]
theorem sk_sf_5 {hd : Bool} {s : Nat} (h : sk s = 5) : sk_sf lab sec rdo sk sx sy sz so sh hd s ↔ (hd = false ∧ ¬ rdo (sx s).toNatClampNeg = 0 ∧ sec (sx s).toNatClampNeg = 0 ∧ sk_in so sh false (sy s)) := by
  unfold sk_sf
  rw [h, if_neg (by decide), if_neg (by decide), if_neg (by decide), if_neg (by decide), if_neg (by decide), if_pos rfl]
theorem sk_sf_6 {hd : Bool} {s : Nat} (h : sk s = 6) : sk_sf lab sec rdo sk sx sy sz so sh hd s ↔ (hd = false ∧ ¬ rdo (sx s).toNatClampNeg = 0 ∧ sec (sx s).toNatClampNeg = 0) := by
  unfold sk_sf
  rw [h, if_neg (by decide), if_neg (by decide), if_neg (by decide), if_neg (by decide), if_neg (by decide), if_neg (by decide)]
/-- what is safe lasts when nothing that is asked changes -/
theorem sk_sf_up {s : Nat} {hd : Bool} (hM : M ≤ 50) (hs : s ≤ 50) (h : sk_stm M ew sk sx sy sz sw dp s) (ae : ∀ j, j < M → sec' j = sec j ∧ rdo' j = rdo j) (as : ∀ j, j < s → so' j = so j ∧ sh' j = sh j)
    (ag : sk' s = sk s ∧ sx' s = sx s ∧ sy' s = sy s ∧ sz' s = sz s) : sk_sf lab sec' rdo' sk' sx' sy' sz' so' sh' hd s ↔ sk_sf lab sec rdo sk sx sy sz so sh hd s := by
  obtain ⟨a1, a2, a3, a4⟩ := ag
  have cl : ∀ p, p < M → (nI p).toNatClampNeg = p := fun p hp => nI_clamp (by omega)
  have pt : ∀ p, p < s → sk_pt (nI p) s := fun p hp => Or.inr ⟨p, hp, rfl⟩
  rcases h.2 with ⟨k, x, p, hx, hp, x1, x2⟩ | ⟨k, a, p, q, ha, hp, hq, x1, x2, x3, r⟩ | ⟨k, p, q, hp, hq, x1, x2, r⟩ | ⟨k, p, q, hp, hq, x1, x2, d, w, r⟩ | ⟨k, x, q, hx, hq, x1, x2, r⟩ | ⟨k, p, q, hp, hq, x1, x2, r⟩ | ⟨k, p, hp, x1⟩
  · rw [sk_sf_0 (a1.trans k), sk_sf_0 k, a2, a3]
    simp only [x1, x2, cl p hp, ae p hp]
  · rw [sk_sf_1 (a1.trans k), sk_sf_1 k, a2, a3, a4]
    simp only [x1, x2, x3, cl p hp, cl q hq, ae p hp, ae q hq]
  · rw [sk_sf_2 (a1.trans k), sk_sf_2 k, a2, a3, x1, x2, sk_in_up (pt p hp) hs as, sk_in_up (pt q hq) hs as]
  · have hz : sk_pt (sz s) s := by
      rcases r with r | ⟨z, hz, r, _⟩
      · exact Or.inl r
      · exact Or.inr ⟨z, hz, r⟩
    rw [sk_sf_3 (a1.trans k), sk_sf_3 k, a2, a3, a4]
    simp only [x1, x2, cl p hp, ae p hp, sk_in_up (pt q hq) hs as, sk_in_up hz hs as]
  · rw [sk_sf_4 (a1.trans k), sk_sf_4 k, a3, x2, sk_in_up (pt q hq) hs as]
  · rw [sk_sf_5 (a1.trans k), sk_sf_5 k, a2, a3]
    simp only [x1, x2, cl p hp, ae p hp, sk_in_up (pt q hq) hs as]
  · rw [sk_sf_6 (a1.trans k), sk_sf_6 k, a2]
    simp only [x1, cl p hp, ae p hp]
theorem sk_sfe_up {s : Nat} (hM : M ≤ 50) (hs : s ≤ 50) (h : sk_stm M ew sk sx sy sz sw dp s) (ae : ∀ j, j < M → sec' j = sec j ∧ rdo' j = rdo j) (as : ∀ j, j < s + 1 → so' j = so j ∧ sh' j = sh j)
    (ag : sk' s = sk s ∧ sx' s = sx s ∧ sy' s = sy s ∧ sz' s = sz s) (f : sk_sfe lab sec rdo sk sx sy sz so sh s) : sk_sfe lab sec' rdo' sk' sx' sy' sz' so' sh' s := by
  have a2 : ∀ j, j < s → so' j = so j ∧ sh' j = sh j := fun j hj => as j (by omega)
  unfold sk_sfe
  rw [sk_sf_up hM hs h ae a2 ag, sk_sf_up hM hs h ae a2 ag, (as s (by omega)).1, (as s (by omega)).2]
  exact f
end
