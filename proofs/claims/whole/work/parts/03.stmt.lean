/-! 03: statements: rules of one step of X's run and of Y's, and what both do with a statement -/
def sk_stk (ps pt pr : sk_F) (b s t : Nat) (r : Bool) : Prop := ps b = nI s ∧ pt b = nI t ∧ pr b = sk_bI r
def sk_ag (b : Nat) (ps pt pr ps' pt' pr' : sk_F) : Prop := ∀ j, j < b → ps' j = ps j ∧ pt' j = pt j ∧ pr' j = pr j
def sk_a4 (b : Nat) (dg st rl ch dg' st' rl' ch' : sk_F) : Prop := ∀ j, j < b → dg' j = dg j ∧ st' j = st j ∧ rl' j = rl j ∧ ch' j = ch j
theorem sk_ag_tr {b b2 : Nat} {ps pt pr ps' pt' pr' ps2 pt2 pr2 : sk_F} (h : sk_ag b ps pt pr ps' pt' pr') (h2 : sk_ag b2 ps' pt' pr' ps2 pt2 pr2) (hb : b ≤ b2) : sk_ag b ps pt pr ps2 pt2 pr2 :=
  fun j hj => ⟨(h2 j (by omega)).1.trans (h j hj).1, (h2 j (by omega)).2.1.trans (h j hj).2.1, (h2 j (by omega)).2.2.trans (h j hj).2.2⟩
theorem sk_a4_tr {b b2 : Nat} {ps pt pr pu ps' pt' pr' pu' ps2 pt2 pr2 pu2 : sk_F} (h : sk_a4 b ps pt pr pu ps' pt' pr' pu') (h2 : sk_a4 b2 ps' pt' pr' pu' ps2 pt2 pr2 pu2) (hb : b ≤ b2) : sk_a4 b ps pt pr pu ps2 pt2 pr2 pu2 :=
  fun j hj => ⟨(h2 j (by omega)).1.trans (h j hj).1, (h2 j (by omega)).2.1.trans (h j hj).2.1, (h2 j (by omega)).2.2.1.trans (h j hj).2.2.1, (h2 j (by omega)).2.2.2.trans (h j hj).2.2.2⟩
theorem sk_stk_ag {b b2 s t : Nat} {r : Bool} {ps pt pr ps' pt' pr' : sk_F} (h : sk_stk ps pt pr b s t r) (h2 : sk_ag b2 ps pt pr ps' pt' pr') (hb : b < b2) : sk_stk ps' pt' pr' b s t r :=
  ⟨(h2 b hb).1.trans h.1, (h2 b hb).2.1.trans h.2.1, (h2 b hb).2.2.trans h.2.2⟩
theorem sk_stk_a4 {b b2 s t : Nat} {r : Bool} {ps pt pr pu ps' pt' pr' pu' : sk_F} (h : sk_stk ps pt pr b s t r) (h2 : sk_a4 b2 ps pt pr pu ps' pt' pr' pu') (hb : b < b2) : sk_stk ps' pt' pr' b s t r :=
  ⟨(h2 b hb).1.trans h.1, (h2 b hb).2.1.trans h.2.1, (h2 b hb).2.2.1.trans h.2.2⟩
abbrev sk_WS : Type := Nat → Nat → Nat → sk_F → sk_F → Nat → sk_F → Nat → sk_F → sk_F → sk_F → sk_F → Prop
abbrev sk_WT : Type := Nat → Nat → Nat → sk_F → sk_F → Nat → sk_F → Nat → sk_F → sk_F → sk_F → sk_F → sk_F → Prop
section
variable (M N : Nat) (ek ex ey ez ew od sec sk sx sy sz : sk_F)
def sk_rx0 (W : sk_WS) : Prop := ∀ (n step b : Nat) (vs es : sk_F) (lc : Nat) (la : sk_F) (pc : Nat) (pa : sk_F) (ps pt pr : sk_F) (s t : Nat) (r : Bool) (x p : Nat) (v : Int32) (lc' : Nat) (la' : sk_F),
  s < N → step < 1000000 → b < 30 → sk_stk ps pt pr b s t r → sk s = 0 → x < 8 → sx s = nI x → p < M → sy s = nI p → sk_EvX M ek ex ew od vs es p lc la v lc' la' → W n (step + 1) b (if r then upd vs x v else vs) es lc' la' pc pa ps pt pr → W (n + 1) step (b + 1) vs es lc la pc pa ps pt pr
def sk_rx1 (W : sk_WS) : Prop := ∀ (n step b : Nat) (vs es : sk_F) (lc : Nat) (la : sk_F) (pc : Nat) (pa : sk_F) (ps pt pr : sk_F) (s t : Nat) (r : Bool) (a p q : Nat) (i : Int32) (lc1 : Nat) (la1 : sk_F) (v : Int32) (lc' : Nat) (la' : sk_F),
  s < N → step < 1000000 → b < 30 → sk_stk ps pt pr b s t r → sk s = 1 → a < 2 → sx s = nI a → p < M → sy s = nI p → q < M → sz s = nI q → sk_EvX M ek ex ew od vs es p lc la i lc1 la1 → sk_EvX M ek ex ew od vs es q lc1 la1 v lc' la' → lc' < 2 ^ 30 → W n (step + 1) b vs (if r then upd es (sk_at (nI a) i).toNatClampNeg v else es) (lc' + 1) (sk_put 200 lc' la' (32 + sk_at (nI a) i)) pc pa ps pt pr → W (n + 1) step (b + 1) vs es lc la pc pa ps pt pr
def sk_rx2 (W : sk_WS) : Prop := ∀ (n step b : Nat) (vs es : sk_F) (lc : Nat) (la : sk_F) (pc : Nat) (pa : sk_F) (ps pt pr : sk_F) (s t : Nat) (r : Bool) (p q : Nat),
  s < N → step < 1000000 → b < 30 → sk_stk ps pt pr b s t r → sk s = 2 → p < N → sx s = nI p → q < N → sy s = nI q → b + 1 < 30 → (∀ ps' pt' pr' : sk_F, sk_ag b ps pt pr ps' pt' pr' → sk_stk ps' pt' pr' b q 0 r → sk_stk ps' pt' pr' (b + 1) p 0 r → W n (step + 1) (b + 2) vs es lc la pc pa ps' pt' pr') → W (n + 1) step (b + 1) vs es lc la pc pa ps pt pr
def sk_rx3a (W : sk_WS) : Prop := ∀ (n step b : Nat) (vs es : sk_F) (lc : Nat) (la : sk_F) (pc : Nat) (pa : sk_F) (ps pt pr : sk_F) (s t : Nat) (r : Bool) (p q : Nat) (v : Int32) (lc' : Nat) (la' : sk_F),
  s < N → step < 1000000 → b < 30 → sk_stk ps pt pr b s t r → sk s = 3 → p < M → sx s = nI p → q < N → sy s = nI q → sk_EvX M ek ex ew od vs es p lc la v lc' la' → ¬ sec p = 0 → sz s = -1 → (∀ ps' pt' pr' : sk_F, sk_ag b ps pt pr ps' pt' pr' → sk_stk ps' pt' pr' b q 0 (r && decide (¬ v = 0)) → W n (step + 1) (b + 1) vs es lc' la' pc pa ps' pt' pr') → W (n + 1) step (b + 1) vs es lc la pc pa ps pt pr
def sk_rx3b (W : sk_WS) : Prop := ∀ (n step b : Nat) (vs es : sk_F) (lc : Nat) (la : sk_F) (pc : Nat) (pa : sk_F) (ps pt pr : sk_F) (s t : Nat) (r : Bool) (p q z : Nat) (v : Int32) (lc' : Nat) (la' : sk_F),
  s < N → step < 1000000 → b < 30 → sk_stk ps pt pr b s t r → sk s = 3 → p < M → sx s = nI p → q < N → sy s = nI q → sk_EvX M ek ex ew od vs es p lc la v lc' la' → ¬ sec p = 0 → z < N → sz s = nI z → b + 1 < 30 → (∀ ps' pt' pr' : sk_F, sk_ag b ps pt pr ps' pt' pr' → sk_stk ps' pt' pr' b z 0 (r && decide (v = 0)) → sk_stk ps' pt' pr' (b + 1) q 0 (r && decide (¬ v = 0)) → W n (step + 1) (b + 2) vs es lc' la' pc pa ps' pt' pr') → W (n + 1) step (b + 1) vs es lc la pc pa ps pt pr
def sk_rx3c (W : sk_WS) : Prop := ∀ (n step b : Nat) (vs es : sk_F) (lc : Nat) (la : sk_F) (pc : Nat) (pa : sk_F) (ps pt pr : sk_F) (s t : Nat) (r : Bool) (p q : Nat) (v : Int32) (lc' : Nat) (la' : sk_F),
  s < N → step < 1000000 → b < 30 → sk_stk ps pt pr b s t r → sk s = 3 → p < M → sx s = nI p → q < N → sy s = nI q → sk_EvX M ek ex ew od vs es p lc la v lc' la' → sec p = 0 → ¬ v = 0 → lc' < 2 ^ 30 → (∀ ps' pt' pr' : sk_F, sk_ag b ps pt pr ps' pt' pr' → sk_stk ps' pt' pr' b q 0 r → W n (step + 1) (b + 1) vs es (lc' + 1) (sk_put 200 lc' la' 1) pc pa ps' pt' pr') → W (n + 1) step (b + 1) vs es lc la pc pa ps pt pr
def sk_rx3d (W : sk_WS) : Prop := ∀ (n step b : Nat) (vs es : sk_F) (lc : Nat) (la : sk_F) (pc : Nat) (pa : sk_F) (ps pt pr : sk_F) (s t : Nat) (r : Bool) (p q : Nat) (v : Int32) (lc' : Nat) (la' : sk_F),
  s < N → step < 1000000 → b < 30 → sk_stk ps pt pr b s t r → sk s = 3 → p < M → sx s = nI p → q < N → sy s = nI q → sk_EvX M ek ex ew od vs es p lc la v lc' la' → sec p = 0 → v = 0 → sz s = -1 → lc' < 2 ^ 30 → W n (step + 1) b vs es (lc' + 1) (sk_put 200 lc' la' 0) pc pa ps pt pr → W (n + 1) step (b + 1) vs es lc la pc pa ps pt pr
def sk_rx3e (W : sk_WS) : Prop := ∀ (n step b : Nat) (vs es : sk_F) (lc : Nat) (la : sk_F) (pc : Nat) (pa : sk_F) (ps pt pr : sk_F) (s t : Nat) (r : Bool) (p q z : Nat) (v : Int32) (lc' : Nat) (la' : sk_F),
  s < N → step < 1000000 → b < 30 → sk_stk ps pt pr b s t r → sk s = 3 → p < M → sx s = nI p → q < N → sy s = nI q → sk_EvX M ek ex ew od vs es p lc la v lc' la' → sec p = 0 → v = 0 → z < N → sz s = nI z → lc' < 2 ^ 30 → (∀ ps' pt' pr' : sk_F, sk_ag b ps pt pr ps' pt' pr' → sk_stk ps' pt' pr' b z 0 r → W n (step + 1) (b + 1) vs es (lc' + 1) (sk_put 200 lc' la' 0) pc pa ps' pt' pr') → W (n + 1) step (b + 1) vs es lc la pc pa ps pt pr
def sk_rx4a (W : sk_WS) : Prop := ∀ (n step b : Nat) (vs es : sk_F) (lc : Nat) (la : sk_F) (pc : Nat) (pa : sk_F) (ps pt pr : sk_F) (s t : Nat) (r : Bool) (x q : Nat),
  s < N → step < 1000000 → b < 30 → sk_stk ps pt pr b s t r → sk s = 4 → x ≤ 6 → sx s = nI x → q < N → sy s = nI q → t < x → b + 1 < 30 → (∀ ps' pt' pr' : sk_F, sk_ag b ps pt pr ps' pt' pr' → sk_stk ps' pt' pr' b s (t + 1) r → sk_stk ps' pt' pr' (b + 1) q 0 r → W n (step + 1) (b + 2) vs es lc la pc pa ps' pt' pr') → W (n + 1) step (b + 1) vs es lc la pc pa ps pt pr
def sk_rx4b (W : sk_WS) : Prop := ∀ (n step b : Nat) (vs es : sk_F) (lc : Nat) (la : sk_F) (pc : Nat) (pa : sk_F) (ps pt pr : sk_F) (s t : Nat) (r : Bool) (x : Nat),
  s < N → step < 1000000 → b < 30 → sk_stk ps pt pr b s t r → sk s = 4 → x ≤ 6 → sx s = nI x → t = x → W n (step + 1) b vs es lc la pc pa ps pt pr → W (n + 1) step (b + 1) vs es lc la pc pa ps pt pr
def sk_rx5a (W : sk_WS) : Prop := ∀ (n step b : Nat) (vs es : sk_F) (lc : Nat) (la : sk_F) (pc : Nat) (pa : sk_F) (ps pt pr : sk_F) (s t : Nat) (r : Bool) (p q : Nat) (v : Int32) (lc' : Nat) (la' : sk_F),
  s < N → step < 1000000 → b < 30 → sk_stk ps pt pr b s t r → sk s = 5 → p < M → sx s = nI p → t < 6 → sk_EvX M ek ex ew od vs es p lc la v lc' la' → lc' < 2 ^ 30 → q < N → sy s = nI q → ¬ v = 0 → b + 1 < 30 → (∀ ps' pt' pr' : sk_F, sk_ag b ps pt pr ps' pt' pr' → sk_stk ps' pt' pr' b s (t + 1) r → sk_stk ps' pt' pr' (b + 1) q 0 r → W n (step + 1) (b + 2) vs es (lc' + 1) (sk_put 200 lc' la' 3) pc pa ps' pt' pr') → W (n + 1) step (b + 1) vs es lc la pc pa ps pt pr
def sk_rx5b (W : sk_WS) : Prop := ∀ (n step b : Nat) (vs es : sk_F) (lc : Nat) (la : sk_F) (pc : Nat) (pa : sk_F) (ps pt pr : sk_F) (s t : Nat) (r : Bool) (p : Nat) (v : Int32) (lc' : Nat) (la' : sk_F),
  s < N → step < 1000000 → b < 30 → sk_stk ps pt pr b s t r → sk s = 5 → p < M → sx s = nI p → t < 6 → sk_EvX M ek ex ew od vs es p lc la v lc' la' → lc' < 2 ^ 30 → v = 0 → W n (step + 1) b vs es (lc' + 1) (sk_put 200 lc' la' 2) pc pa ps pt pr → W (n + 1) step (b + 1) vs es lc la pc pa ps pt pr
def sk_rx5c (W : sk_WS) : Prop := ∀ (n step b : Nat) (vs es : sk_F) (lc : Nat) (la : sk_F) (pc : Nat) (pa : sk_F) (ps pt pr : sk_F) (s t : Nat) (r : Bool),
  s < N → step < 1000000 → b < 30 → sk_stk ps pt pr b s t r → sk s = 5 → t = 6 → W n (step + 1) b vs es lc la pc pa ps pt pr → W (n + 1) step (b + 1) vs es lc la pc pa ps pt pr
def sk_rx6 (W : sk_WS) : Prop := ∀ (n step b : Nat) (vs es : sk_F) (lc : Nat) (la : sk_F) (pc : Nat) (pa : sk_F) (ps pt pr : sk_F) (s t : Nat) (r : Bool) (p : Nat) (v : Int32) (lc' : Nat) (la' : sk_F),
  s < N → step < 1000000 → b < 30 → sk_stk ps pt pr b s t r → sk s = 6 → p < M → sx s = nI p → sk_EvX M ek ex ew od vs es p lc la v lc' la' → r = true → pc < 2 ^ 30 → W n (step + 1) b vs es lc' la' (pc + 1) (sk_put 20 pc pa v) ps pt pr → W (n + 1) step (b + 1) vs es lc la pc pa ps pt pr
def sk_ry0 (W : sk_WT) : Prop := ∀ (n k b : Nat) (vs es : sk_F) (lc : Nat) (la : sk_F) (pc : Nat) (pa : sk_F) (dg st rl ch : sk_F) (s g : Nat) (r : Bool) (x p : Nat) (v : Int32) (lc' : Nat) (la' : sk_F),
  s < N → k < 60000 → b < 31 → sk_stk dg st rl b s g r → sk s = 0 → x < 8 → sx s = nI x → p < M → sy s = nI p → sk_EvY M ek ex ey ez ew vs es p lc la v lc' la' → (∀ dg' st' rl' ch' : sk_F, sk_a4 b dg st rl ch dg' st' rl' ch' → W n (k + 1) b (if r then upd vs x v else vs) es lc' la' pc pa dg' st' rl' ch') → W (n + 1) k (b + 1) vs es lc la pc pa dg st rl ch
def sk_ry1 (W : sk_WT) : Prop := ∀ (n k b : Nat) (vs es : sk_F) (lc : Nat) (la : sk_F) (pc : Nat) (pa : sk_F) (dg st rl ch : sk_F) (s g : Nat) (r : Bool) (a p q : Nat) (i : Int32) (lc1 : Nat) (la1 : sk_F) (v : Int32) (lc' : Nat) (la' : sk_F),
  s < N → k < 60000 → b < 31 → sk_stk dg st rl b s g r → sk s = 1 → a < 2 → sx s = nI a → p < M → sy s = nI p → q < M → sz s = nI q → sk_EvY M ek ex ey ez ew vs es p lc la i lc1 la1 → sk_EvY M ek ex ey ez ew vs es q lc1 la1 v lc' la' → lc' < 2 ^ 30 → (∀ dg' st' rl' ch' : sk_F, sk_a4 b dg st rl ch dg' st' rl' ch' → W n (k + 1) b vs (if r then upd es (sk_at (nI a) i).toNatClampNeg v else es) (lc' + 1) (sk_put 200 lc' la' (32 + sk_at (nI a) i)) pc pa dg' st' rl' ch') → W (n + 1) k (b + 1) vs es lc la pc pa dg st rl ch
def sk_ry2a (W : sk_WT) : Prop := ∀ (n k b : Nat) (vs es : sk_F) (lc : Nat) (la : sk_F) (pc : Nat) (pa : sk_F) (dg st rl ch : sk_F) (s g : Nat) (r : Bool) (p : Nat),
  s < N → k < 60000 → b < 31 → sk_stk dg st rl b s g r → sk s = 2 → p < N → sx s = nI p → g = 0 → (∀ dg' st' rl' ch' : sk_F, sk_a4 b dg st rl ch dg' st' rl' ch' → sk_stk dg' st' rl' b s (g + 1) r → sk_stk dg' st' rl' (b + 1) p 0 r → W n (k + 1) (b + 2) vs es lc la pc pa dg' st' rl' ch') → W (n + 1) k (b + 1) vs es lc la pc pa dg st rl ch
def sk_ry2b (W : sk_WT) : Prop := ∀ (n k b : Nat) (vs es : sk_F) (lc : Nat) (la : sk_F) (pc : Nat) (pa : sk_F) (dg st rl ch : sk_F) (s g : Nat) (r : Bool) (q : Nat),
  s < N → k < 60000 → b < 31 → sk_stk dg st rl b s g r → sk s = 2 → q < N → sy s = nI q → g = 1 → (∀ dg' st' rl' ch' : sk_F, sk_a4 b dg st rl ch dg' st' rl' ch' → sk_stk dg' st' rl' b s (g + 1) r → sk_stk dg' st' rl' (b + 1) q 0 r → W n (k + 1) (b + 2) vs es lc la pc pa dg' st' rl' ch') → W (n + 1) k (b + 1) vs es lc la pc pa dg st rl ch
def sk_ry2c (W : sk_WT) : Prop := ∀ (n k b : Nat) (vs es : sk_F) (lc : Nat) (la : sk_F) (pc : Nat) (pa : sk_F) (dg st rl ch : sk_F) (s g : Nat) (r : Bool),
  s < N → k < 60000 → b < 31 → sk_stk dg st rl b s g r → sk s = 2 → g = 2 → (∀ dg' st' rl' ch' : sk_F, sk_a4 b dg st rl ch dg' st' rl' ch' → W n (k + 1) b vs es lc la pc pa dg' st' rl' ch') → W (n + 1) k (b + 1) vs es lc la pc pa dg st rl ch
def sk_ry3a (W : sk_WT) : Prop := ∀ (n k b : Nat) (vs es : sk_F) (lc : Nat) (la : sk_F) (pc : Nat) (pa : sk_F) (dg st rl ch : sk_F) (s g : Nat) (r : Bool) (p q : Nat) (v : Int32) (lc' : Nat) (la' : sk_F),
  s < N → k < 60000 → b < 31 → sk_stk dg st rl b s g r → sk s = 3 → g = 0 → p < M → sx s = nI p → q < N → sy s = nI q → sk_EvY M ek ex ey ez ew vs es p lc la v lc' la' → ¬ sec p = 0 → (∀ dg' st' rl' ch' : sk_F, sk_a4 b dg st rl ch dg' st' rl' ch' → sk_stk dg' st' rl' b s (g + 1) r → ch' b = sk_bI (decide (¬ v = 0)) → sk_stk dg' st' rl' (b + 1) q 0 (r && decide (¬ v = 0)) → W n (k + 1) (b + 2) vs es lc' la' pc pa dg' st' rl' ch') → W (n + 1) k (b + 1) vs es lc la pc pa dg st rl ch
def sk_ry3b (W : sk_WT) : Prop := ∀ (n k b : Nat) (vs es : sk_F) (lc : Nat) (la : sk_F) (pc : Nat) (pa : sk_F) (dg st rl ch : sk_F) (s g : Nat) (r : Bool) (p q : Nat) (v : Int32) (lc' : Nat) (la' : sk_F),
  s < N → k < 60000 → b < 31 → sk_stk dg st rl b s g r → sk s = 3 → g = 0 → p < M → sx s = nI p → q < N → sy s = nI q → sk_EvY M ek ex ey ez ew vs es p lc la v lc' la' → sec p = 0 → ¬ v = 0 → lc' < 2 ^ 30 → (∀ dg' st' rl' ch' : sk_F, sk_a4 b dg st rl ch dg' st' rl' ch' → sk_stk dg' st' rl' b s (g + 1) r → ch' b = sk_bI true → sk_stk dg' st' rl' (b + 1) q 0 r → W n (k + 1) (b + 2) vs es (lc' + 1) (sk_put 200 lc' la' 1) pc pa dg' st' rl' ch') → W (n + 1) k (b + 1) vs es lc la pc pa dg st rl ch
def sk_ry3c (W : sk_WT) : Prop := ∀ (n k b : Nat) (vs es : sk_F) (lc : Nat) (la : sk_F) (pc : Nat) (pa : sk_F) (dg st rl ch : sk_F) (s g : Nat) (r : Bool) (p q : Nat) (v : Int32) (lc' : Nat) (la' : sk_F),
  s < N → k < 60000 → b < 31 → sk_stk dg st rl b s g r → sk s = 3 → g = 0 → p < M → sx s = nI p → q < N → sy s = nI q → sk_EvY M ek ex ey ez ew vs es p lc la v lc' la' → sec p = 0 → v = 0 → lc' < 2 ^ 30 → (∀ dg' st' rl' ch' : sk_F, sk_a4 b dg st rl ch dg' st' rl' ch' → sk_stk dg' st' rl' b s (g + 1) r → ch' b = sk_bI false → W n (k + 1) (b + 1) vs es (lc' + 1) (sk_put 200 lc' la' 0) pc pa dg' st' rl' ch') → W (n + 1) k (b + 1) vs es lc la pc pa dg st rl ch
def sk_ry3d (W : sk_WT) : Prop := ∀ (n k b : Nat) (vs es : sk_F) (lc : Nat) (la : sk_F) (pc : Nat) (pa : sk_F) (dg st rl ch : sk_F) (s g : Nat) (r : Bool) (p z : Nat) (tk : Bool),
  s < N → k < 60000 → b < 31 → sk_stk dg st rl b s g r → sk s = 3 → g = 1 → p < M → sx s = nI p → ¬ sec p = 0 → z < N → sz s = nI z → ch b = sk_bI tk → (∀ dg' st' rl' ch' : sk_F, sk_a4 b dg st rl ch dg' st' rl' ch' → sk_stk dg' st' rl' b s (g + 1) r → sk_stk dg' st' rl' (b + 1) z 0 (r && !tk) → W n (k + 1) (b + 2) vs es lc la pc pa dg' st' rl' ch') → W (n + 1) k (b + 1) vs es lc la pc pa dg st rl ch
def sk_ry3e (W : sk_WT) : Prop := ∀ (n k b : Nat) (vs es : sk_F) (lc : Nat) (la : sk_F) (pc : Nat) (pa : sk_F) (dg st rl ch : sk_F) (s g : Nat) (r : Bool) (p z : Nat),
  s < N → k < 60000 → b < 31 → sk_stk dg st rl b s g r → sk s = 3 → g = 1 → p < M → sx s = nI p → sec p = 0 → z < N → sz s = nI z → ch b = sk_bI false → (∀ dg' st' rl' ch' : sk_F, sk_a4 b dg st rl ch dg' st' rl' ch' → sk_stk dg' st' rl' b s (g + 1) r → sk_stk dg' st' rl' (b + 1) z 0 r → W n (k + 1) (b + 2) vs es lc la pc pa dg' st' rl' ch') → W (n + 1) k (b + 1) vs es lc la pc pa dg st rl ch
def sk_ry3f (W : sk_WT) : Prop := ∀ (n k b : Nat) (vs es : sk_F) (lc : Nat) (la : sk_F) (pc : Nat) (pa : sk_F) (dg st rl ch : sk_F) (s g : Nat) (r : Bool) (p : Nat),
  s < N → k < 60000 → b < 31 → sk_stk dg st rl b s g r → sk s = 3 → g = 1 → p < M → sx s = nI p → (sz s = -1 ∨ ∃ z, z < N ∧ sz s = nI z ∧ sec p = 0 ∧ ch b = sk_bI true) → (∀ dg' st' rl' ch' : sk_F, sk_a4 b dg st rl ch dg' st' rl' ch' → W n (k + 1) b vs es lc la pc pa dg' st' rl' ch') → W (n + 1) k (b + 1) vs es lc la pc pa dg st rl ch
def sk_ry3g (W : sk_WT) : Prop := ∀ (n k b : Nat) (vs es : sk_F) (lc : Nat) (la : sk_F) (pc : Nat) (pa : sk_F) (dg st rl ch : sk_F) (s g : Nat) (r : Bool) (p : Nat),
  s < N → k < 60000 → b < 31 → sk_stk dg st rl b s g r → sk s = 3 → g = 2 → p < M → sx s = nI p → (∀ dg' st' rl' ch' : sk_F, sk_a4 b dg st rl ch dg' st' rl' ch' → W n (k + 1) b vs es lc la pc pa dg' st' rl' ch') → W (n + 1) k (b + 1) vs es lc la pc pa dg st rl ch
def sk_ry4a (W : sk_WT) : Prop := ∀ (n k b : Nat) (vs es : sk_F) (lc : Nat) (la : sk_F) (pc : Nat) (pa : sk_F) (dg st rl ch : sk_F) (s g : Nat) (r : Bool) (x q : Nat),
  s < N → k < 60000 → b < 31 → sk_stk dg st rl b s g r → sk s = 4 → x ≤ 6 → sx s = nI x → q < N → sy s = nI q → g < x → (∀ dg' st' rl' ch' : sk_F, sk_a4 b dg st rl ch dg' st' rl' ch' → sk_stk dg' st' rl' b s (g + 1) r → sk_stk dg' st' rl' (b + 1) q 0 r → W n (k + 1) (b + 2) vs es lc la pc pa dg' st' rl' ch') → W (n + 1) k (b + 1) vs es lc la pc pa dg st rl ch
def sk_ry4b (W : sk_WT) : Prop := ∀ (n k b : Nat) (vs es : sk_F) (lc : Nat) (la : sk_F) (pc : Nat) (pa : sk_F) (dg st rl ch : sk_F) (s g : Nat) (r : Bool) (x : Nat),
  s < N → k < 60000 → b < 31 → sk_stk dg st rl b s g r → sk s = 4 → x ≤ 6 → sx s = nI x → g = x → (∀ dg' st' rl' ch' : sk_F, sk_a4 b dg st rl ch dg' st' rl' ch' → W n (k + 1) b vs es lc la pc pa dg' st' rl' ch') → W (n + 1) k (b + 1) vs es lc la pc pa dg st rl ch
def sk_ry5a (W : sk_WT) : Prop := ∀ (n k b : Nat) (vs es : sk_F) (lc : Nat) (la : sk_F) (pc : Nat) (pa : sk_F) (dg st rl ch : sk_F) (s g : Nat) (r : Bool) (p q : Nat) (v : Int32) (lc' : Nat) (la' : sk_F),
  s < N → k < 60000 → b < 31 → sk_stk dg st rl b s g r → sk s = 5 → p < M → sx s = nI p → g < 6 → sk_EvY M ek ex ey ez ew vs es p lc la v lc' la' → lc' < 2 ^ 30 → q < N → sy s = nI q → ¬ v = 0 → (∀ dg' st' rl' ch' : sk_F, sk_a4 b dg st rl ch dg' st' rl' ch' → sk_stk dg' st' rl' b s (g + 1) r → sk_stk dg' st' rl' (b + 1) q 0 r → W n (k + 1) (b + 2) vs es (lc' + 1) (sk_put 200 lc' la' 3) pc pa dg' st' rl' ch') → W (n + 1) k (b + 1) vs es lc la pc pa dg st rl ch
def sk_ry5b (W : sk_WT) : Prop := ∀ (n k b : Nat) (vs es : sk_F) (lc : Nat) (la : sk_F) (pc : Nat) (pa : sk_F) (dg st rl ch : sk_F) (s g : Nat) (r : Bool) (p : Nat) (v : Int32) (lc' : Nat) (la' : sk_F),
  s < N → k < 60000 → b < 31 → sk_stk dg st rl b s g r → sk s = 5 → p < M → sx s = nI p → g < 6 → sk_EvY M ek ex ey ez ew vs es p lc la v lc' la' → lc' < 2 ^ 30 → v = 0 → (∀ dg' st' rl' ch' : sk_F, sk_a4 b dg st rl ch dg' st' rl' ch' → W n (k + 1) b vs es (lc' + 1) (sk_put 200 lc' la' 2) pc pa dg' st' rl' ch') → W (n + 1) k (b + 1) vs es lc la pc pa dg st rl ch
def sk_ry5c (W : sk_WT) : Prop := ∀ (n k b : Nat) (vs es : sk_F) (lc : Nat) (la : sk_F) (pc : Nat) (pa : sk_F) (dg st rl ch : sk_F) (s g : Nat) (r : Bool),
  s < N → k < 60000 → b < 31 → sk_stk dg st rl b s g r → sk s = 5 → g = 6 → (∀ dg' st' rl' ch' : sk_F, sk_a4 b dg st rl ch dg' st' rl' ch' → W n (k + 1) b vs es lc la pc pa dg' st' rl' ch') → W (n + 1) k (b + 1) vs es lc la pc pa dg st rl ch
def sk_ry6 (W : sk_WT) : Prop := ∀ (n k b : Nat) (vs es : sk_F) (lc : Nat) (la : sk_F) (pc : Nat) (pa : sk_F) (dg st rl ch : sk_F) (s g : Nat) (r : Bool) (p : Nat) (v : Int32) (lc' : Nat) (la' : sk_F),
  s < N → k < 60000 → b < 31 → sk_stk dg st rl b s g r → sk s = 6 → p < M → sx s = nI p → sk_EvY M ek ex ey ez ew vs es p lc la v lc' la' → pc < 2 ^ 30 → (∀ dg' st' rl' ch' : sk_F, sk_a4 b dg st rl ch dg' st' rl' ch' → W n (k + 1) b vs es lc' la' (pc + 1) (sk_put 20 pc pa v) dg' st' rl' ch') → W (n + 1) k (b + 1) vs es lc la pc pa dg st rl ch
end
def sk_RXs (M N : Nat) (ek ex ew od sec sk sx sy sz : sk_F) (W : sk_WS) : Prop := sk_rx0 M N ek ex ew od sk sx sy W ∧ sk_rx1 M N ek ex ew od sk sx sy sz W ∧ sk_rx2 N sk sx sy W ∧ sk_rx3a M N ek ex ew od sec sk sx sy sz W ∧ sk_rx3b M N ek ex ew od sec sk sx sy sz W ∧ sk_rx3c M N ek ex ew od sec sk sx sy W ∧ sk_rx3d M N ek ex ew od sec sk sx sy sz W ∧ sk_rx3e M N ek ex ew od sec sk sx sy sz W ∧ sk_rx4a N sk sx sy W ∧ sk_rx4b N sk sx W ∧ sk_rx5a M N ek ex ew od sk sx sy W ∧ sk_rx5b M N ek ex ew od sk sx W ∧ sk_rx5c N sk W ∧ sk_rx6 M N ek ex ew od sk sx W
def sk_RYs (M N : Nat) (ek ex ey ez ew sec sk sx sy sz : sk_F) (W : sk_WT) : Prop := sk_ry0 M N ek ex ey ez ew sk sx sy W ∧ sk_ry1 M N ek ex ey ez ew sk sx sy sz W ∧ sk_ry2a N sk sx W ∧ sk_ry2b N sk sy W ∧ sk_ry2c N sk W ∧ sk_ry3a M N ek ex ey ez ew sec sk sx sy W ∧ sk_ry3b M N ek ex ey ez ew sec sk sx sy W ∧ sk_ry3c M N ek ex ey ez ew sec sk sx sy W ∧ sk_ry3d M N sec sk sx sz W ∧ sk_ry3e M N sec sk sx sz W ∧ sk_ry3f M N sec sk sx sz W ∧ sk_ry3g M N sk sx W ∧ sk_ry4a N sk sx sy W ∧ sk_ry4b N sk sx W ∧ sk_ry5a M N ek ex ey ez ew sk sx sy W ∧ sk_ry5b M N ek ex ey ez ew sk sx W ∧ sk_ry5c N sk W ∧ sk_ry6 M N ek ex ey ez ew sk sx W
def sk_XS (M N : Nat) (ek ex ew od sec sk sx sy sz sw : sk_F) (s t : Nat) (r : Bool) (vs es : sk_F) (lc : Nat) (la : sk_F) (pc : Nat) (pa : sk_F) (vs1 es1 : sk_F) (lc1 : Nat) (la1 : sk_F) (pc1 : Nat) (pa1 : sk_F) (c : Nat) : Prop :=
  ∀ W : sk_WS, sk_RXs M N ek ex ew od sec sk sx sy sz W → ∀ (n step b : Nat) (ps pt pr : sk_F), b + sk_w sw s ≤ 30 → step + c ≤ 1000000 → sk_stk ps pt pr b s t r →
    (∀ ps' pt' pr' : sk_F, sk_ag b ps pt pr ps' pt' pr' → W n (step + c) b vs1 es1 lc1 la1 pc1 pa1 ps' pt' pr') → W (n + c) step (b + 1) vs es lc la pc pa ps pt pr
def sk_YS (M N : Nat) (ek ex ey ez ew sec sk sx sy sz sw : sk_F) (s g : Nat) (r : Bool) (vs es : sk_F) (lc : Nat) (la : sk_F) (pc : Nat) (pa : sk_F) (vs1 es1 : sk_F) (lc1 : Nat) (la1 : sk_F) (pc1 : Nat) (pa1 : sk_F) (c : Nat) : Prop :=
  ∀ W : sk_WT, sk_RYs M N ek ex ey ez ew sec sk sx sy sz W → ∀ (n k b : Nat) (dg st rl ch : sk_F), b + sk_w sw s ≤ 31 → k + c ≤ 60000 → sk_stk dg st rl b s g r →
    (∀ dg' st' rl' ch' : sk_F, sk_a4 b dg st rl ch dg' st' rl' ch' → W n (k + c) b vs1 es1 lc1 la1 pc1 pa1 dg' st' rl' ch') → W (n + c) k (b + 1) vs es lc la pc pa dg st rl ch
section
variable {M N : Nat} {ek ex ey ez ew od sec sk sx sy sz sw : sk_F}
/-- X: the item above, then the item below -/
theorem sk_x2 {p q t1 t2 c1 c2 : Nat} {r1 r2 : Bool} {vs es : sk_F} {lc : Nat} {la : sk_F} {pc : Nat} {pa : sk_F} {vs1 es1 : sk_F} {lc1 : Nat} {la1 : sk_F} {pc1 : Nat} {pa1 : sk_F} {vs2 es2 : sk_F} {lc2 : Nat} {la2 : sk_F} {pc2 : Nat} {pa2 : sk_F} (A1 : sk_XS M N ek ex ew od sec sk sx sy sz sw p t1 r1 vs es lc la pc pa vs1 es1 lc1 la1 pc1 pa1 c1) (A2 : sk_XS M N ek ex ew od sec sk sx sy sz sw q t2 r2 vs1 es1 lc1 la1 pc1 pa1 vs2 es2 lc2 la2 pc2 pa2 c2)
    {W : sk_WS} (R : sk_RXs M N ek ex ew od sec sk sx sy sz W) {n step b : Nat} {ps pt pr : sk_F} (h1 : b + 1 + sk_w sw p ≤ 30) (h2 : b + sk_w sw q ≤ 30) (h3 : step + c1 + c2 ≤ 1000000) (k1 : sk_stk ps pt pr b q t2 r2) (k2 : sk_stk ps pt pr (b + 1) p t1 r1)
    (C : ∀ ps' pt' pr' : sk_F, sk_ag b ps pt pr ps' pt' pr' → W n (step + c1 + c2) b vs2 es2 lc2 la2 pc2 pa2 ps' pt' pr') : W (n + c2 + c1) step (b + 2) vs es lc la pc pa ps pt pr := by
  refine A1 W R (n + c2) step (b + 1) ps pt pr (by omega) (by omega) k2 ?_
  intro ps' pt' pr' a1
  refine A2 W R n (step + c1) b ps' pt' pr' h2 (by omega) (sk_stk_ag k1 a1 (by omega)) ?_
  intro ps2 pt2 pr2 a2
  exact C ps2 pt2 pr2 (sk_ag_tr (fun j hj => a1 j (by omega)) a2 (by omega))
theorem sk_b2 {K K1 K2 w1 w2 c1 c2 : Nat} (h3 : 3 ≤ K) (h1 : K1 ≤ K) (h2 : K2 ≤ K) (e1 : c1 ≤ K1 * w1) (e2 : c2 ≤ K2 * w2) {w : Nat} (hw : w1 + w2 + 1 ≤ w) : 3 + c1 + c2 ≤ K * w := by
  have a1 : K1 * w1 ≤ K * w1 := Nat.mul_le_mul_right _ h1
  have a2 : K2 * w2 ≤ K * w2 := Nat.mul_le_mul_right _ h2
  have a3 : K * (w1 + w2 + 1) ≤ K * w := Nat.mul_le_mul_left _ hw
  rw [Nat.mul_add, Nat.mul_add] at a3
  omega
theorem sk_b1 {K K1 w1 c1 : Nat} (h3 : 3 ≤ K) (h1 : K1 ≤ K) (e1 : c1 ≤ K1 * w1) {w : Nat} (hw : w1 + 1 ≤ w) : 3 + c1 ≤ K * w := by
  have := sk_b2 (K2 := 0) (w2 := 0) (c2 := 0) h3 h1 (Nat.zero_le _) e1 (Nat.le_refl _) (w := w) (by omega)
  omega
theorem sk_b4 {K w1 w : Nat} (h3 : 3 ≤ K) (hw : w1 + 1 ≤ w) : 6 * (1 + K * w1) + 1 ≤ 6 * K * w := by
  have a3 : 6 * K * (w1 + 1) ≤ 6 * K * w := Nat.mul_le_mul_left _ hw
  rw [Nat.mul_add, Nat.mul_assoc] at a3
  omega
def sk_K (d : Nat) : Nat := 3 * 6 ^ d
theorem sk_K3 (d : Nat) : 3 ≤ sk_K d := by
  have : 0 < 6 ^ d := Nat.pow_pos (by decide)
  unfold sk_K
  omega
theorem sk_Km {d d' : Nat} (h : d ≤ d') : sk_K d ≤ sk_K d' := Nat.mul_le_mul_left _ (Nat.pow_le_pow_right (by decide) h)
theorem sk_Ks (d : Nat) : sk_K (d + 1) = 6 * sk_K d := by
  unfold sk_K
  rw [Nat.pow_succ]
  omega
theorem sk_Kb {d w : Nat} (h : d ≤ 3) (hw : w ≤ 30) : sk_K d * w ≤ 19440 :=
  Nat.le_trans (Nat.mul_le_mul (sk_Km h) hw) (by decide)
def sk_G (M N : Nat) (ek ex ey ez ew od sec sk sx sy sz sw : sk_F) (s t : Nat) (r : Bool) (vs es : sk_F) (lc : Nat) (la : sk_F) (pc : Nat) (pa : sk_F) (Bd : Nat) : Prop :=
  ∃ (vs1 es1 : sk_F) (lc1 : Nat) (la1 : sk_F) (pc1 : Nat) (pa1 : sk_F) (cx cy : Nat), cx ≤ cy ∧ cy ≤ Bd ∧ lc1 ≤ lc + 31 * cx ∧ pc1 ≤ pc + cx ∧ sk_XS M N ek ex ew od sec sk sx sy sz sw s t r vs es lc la pc pa vs1 es1 lc1 la1 pc1 pa1 cx ∧ sk_YS M N ek ex ey ez ew sec sk sx sy sz sw s t r vs es lc la pc pa vs1 es1 lc1 la1 pc1 pa1 cy
theorem sk_g0 {s t x p : Nat} {r : Bool} {vs es : sk_F} {lc : Nat} {la : sk_F} {pc : Nat} {pa : sk_F} {v : Int32} {lc' : Nat} {la' : sk_F} (hsN : s < N) (hk : sk s = 0) (hx : x < 8) (h1 : sx s = nI x) (hp : p < M) (h2 : sy s = nI p) (hw : 1 ≤ sk_w sw s)
    (X : sk_EvX M ek ex ew od vs es p lc la v lc' la') (Y : sk_EvY M ek ex ey ez ew vs es p lc la v lc' la') (hl : lc' ≤ lc + 30) {Bd : Nat} (hB : 1 ≤ Bd) : sk_G M N ek ex ey ez ew od sec sk sx sy sz sw s t r vs es lc la pc pa Bd := by
  refine ⟨(if r then upd vs x v else vs), es, lc', la', pc, pa, 1, 1, Nat.le_refl _, hB, by omega, by omega, ?_, ?_⟩
  · intro W R n step b ps pt pr hb hc hs C
    exact R.1 n step b vs es lc la pc pa ps pt pr s t r x p v lc' la' hsN (by omega) (by omega) hs hk hx h1 hp h2 X (C ps pt pr (fun _ _ => ⟨rfl, rfl, rfl⟩))
  · intro W R n k b dg st rl ch hb hc hs C
    exact R.1 n k b vs es lc la pc pa dg st rl ch s t r x p v lc' la' hsN (by omega) (by omega) hs hk hx h1 hp h2 Y C
theorem sk_g1 {s t a p q : Nat} {r : Bool} {vs es : sk_F} {lc : Nat} {la : sk_F} {pc : Nat} {pa : sk_F} {i v : Int32} {lc0 lc' : Nat} {la0 la' : sk_F} (hsN : s < N) (hk : sk s = 1) (hx : a < 2) (h1 : sx s = nI a) (hp : p < M) (h2 : sy s = nI p) (hq : q < M) (h3 : sz s = nI q) (hw : 1 ≤ sk_w sw s)
    (X0 : sk_EvX M ek ex ew od vs es p lc la i lc0 la0) (Y0 : sk_EvY M ek ex ey ez ew vs es p lc la i lc0 la0) (X : sk_EvX M ek ex ew od vs es q lc0 la0 v lc' la') (Y : sk_EvY M ek ex ey ez ew vs es q lc0 la0 v lc' la') (hl : lc' ≤ lc + 30) (hl2 : lc + 31 ≤ 2 ^ 30) {Bd : Nat} (hB : 1 ≤ Bd) : sk_G M N ek ex ey ez ew od sec sk sx sy sz sw s t r vs es lc la pc pa Bd := by
  refine ⟨vs, (if r then upd es (sk_at (nI a) i).toNatClampNeg v else es), lc' + 1, (sk_put 200 lc' la' (32 + sk_at (nI a) i)), pc, pa, 1, 1, Nat.le_refl _, hB, by omega, by omega, ?_, ?_⟩
  · intro W R n step b ps pt pr hb hc hs C
    exact R.2.1 n step b vs es lc la pc pa ps pt pr s t r a p q i lc0 la0 v lc' la' hsN (by omega) (by omega) hs hk hx h1 hp h2 hq h3 X0 X (by omega) (C ps pt pr (fun _ _ => ⟨rfl, rfl, rfl⟩))
  · intro W R n k b dg st rl ch hb hc hs C
    exact R.2.1 n k b vs es lc la pc pa dg st rl ch s t r a p q i lc0 la0 v lc' la' hsN (by omega) (by omega) hs hk hx h1 hp h2 hq h3 Y0 Y (by omega) C
theorem sk_g6 {s t p : Nat} {vs es : sk_F} {lc : Nat} {la : sk_F} {pc : Nat} {pa : sk_F} {v : Int32} {lc' : Nat} {la' : sk_F} (hsN : s < N) (hk : sk s = 6) (hp : p < M) (h1 : sx s = nI p) (hw : 1 ≤ sk_w sw s)
    (X : sk_EvX M ek ex ew od vs es p lc la v lc' la') (Y : sk_EvY M ek ex ey ez ew vs es p lc la v lc' la') (hl : lc' ≤ lc + 30) (hpc : pc < 2 ^ 30) {Bd : Nat} (hB : 1 ≤ Bd) : sk_G M N ek ex ey ez ew od sec sk sx sy sz sw s t true vs es lc la pc pa Bd := by
  refine ⟨vs, es, lc', la', pc + 1, (sk_put 20 pc pa v), 1, 1, Nat.le_refl _, hB, by omega, by omega, ?_, ?_⟩
  · intro W R n step b ps pt pr hb hc hs C
    exact R.2.2.2.2.2.2.2.2.2.2.2.2.2 n step b vs es lc la pc pa ps pt pr s t true p v lc' la' hsN (by omega) (by omega) hs hk hp h1 X rfl hpc (C ps pt pr (fun _ _ => ⟨rfl, rfl, rfl⟩))
  · intro W R n k b dg st rl ch hb hc hs C
    exact R.2.2.2.2.2.2.2.2.2.2.2.2.2.2.2.2.2 n k b vs es lc la pc pa dg st rl ch s t true p v lc' la' hsN (by omega) (by omega) hs hk hp h1 Y hpc C
theorem sk_g2 {s p q : Nat} {r : Bool} {vs es : sk_F} {lc : Nat} {la : sk_F} {pc : Nat} {pa : sk_F} (hsN : s < N) (hk : sk s = 2) (hp : p < N) (h1 : sx s = nI p) (hq : q < N) (h2 : sy s = nI q) (hw : sk_w sw p + sk_w sw q + 1 ≤ sk_w sw s) (wp : 1 ≤ sk_w sw p) (wq : 1 ≤ sk_w sw q) {B1 B2 : Nat}
    (G1 : sk_G M N ek ex ey ez ew od sec sk sx sy sz sw p 0 r vs es lc la pc pa B1) (G2 : ∀ (vs1 es1 : sk_F) (lc1 : Nat) (la1 : sk_F) (pc1 : Nat) (pa1 : sk_F), lc1 ≤ lc + 31 * B1 → pc1 ≤ pc + B1 → sk_G M N ek ex ey ez ew od sec sk sx sy sz sw q 0 r vs1 es1 lc1 la1 pc1 pa1 B2) {Bd : Nat} (hB : 3 + B1 + B2 ≤ Bd) : sk_G M N ek ex ey ez ew od sec sk sx sy sz sw s 0 r vs es lc la pc pa Bd := by
  obtain ⟨vs1, es1, lc1, la1, pc1, pa1, c1, d1, i1, i2, i3, i4, X1, Y1⟩ := G1
  obtain ⟨vs2, es2, lc2, la2, pc2, pa2, c2, d2, j1, j2, j3, j4, X2, Y2⟩ := G2 vs1 es1 lc1 la1 pc1 pa1 (by omega) (by omega)
  refine ⟨vs2, es2, lc2, la2, pc2, pa2, 1 + c1 + c2, 3 + d1 + d2, by omega, by omega, by omega, by omega, ?_, ?_⟩
  · intro W R n step b ps pt pr hb hc hs C
    have e1 : n + (1 + c1 + c2) = n + c2 + c1 + 1 := by omega
    rw [e1]
    refine R.2.2.1 (n + c2 + c1) step b vs es lc la pc pa ps pt pr s 0 r p q hsN (by omega) (by omega) hs hk hp h1 hq h2 (by omega) ?_
    intro ps' pt' pr' a1 k1 k2
    refine sk_x2 X1 X2 R (by omega) (by omega) (by omega) k1 k2 ?_
    intro ps2 pt2 pr2 a2
    have e2 : step + 1 + c1 + c2 = step + (1 + c1 + c2) := by omega
    rw [e2]
    exact C _ _ _ (sk_ag_tr a1 a2 (Nat.le_refl _))
  · intro W R n k b dg st rl ch hb hc hs C
    have e1 : n + (3 + d1 + d2) = n + 1 + d2 + 1 + d1 + 1 := by omega
    rw [e1]
    refine R.2.2.1 _ k b vs es lc la pc pa dg st rl ch s 0 r p hsN (by omega) (by omega) hs hk hp h1 rfl ?_
    intro dg1 st1 rl1 ch1 a1 k1 k2
    refine Y1 W R _ (k + 1) (b + 1) dg1 st1 rl1 ch1 (by omega) (by omega) k2 ?_
    intro dg2 st2 rl2 ch2 a2
    refine R.2.2.2.1 _ (k + 1 + d1) b vs1 es1 lc1 la1 pc1 pa1 dg2 st2 rl2 ch2 s 1 r q hsN (by omega) (by omega) (sk_stk_a4 k1 a2 (by omega)) hk hq h2 rfl ?_
    intro dg3 st3 rl3 ch3 a3 k3 k4
    refine Y2 W R _ (k + 1 + d1 + 1) (b + 1) dg3 st3 rl3 ch3 (by omega) (by omega) k4 ?_
    intro dg4 st4 rl4 ch4 a4
    refine R.2.2.2.2.1 n (k + 1 + d1 + 1 + d2) b vs2 es2 lc2 la2 pc2 pa2 dg4 st4 rl4 ch4 s 2 r hsN (by omega) (by omega) (sk_stk_a4 k3 a4 (by omega)) hk rfl ?_
    intro dg5 st5 rl5 ch5 a5
    have e2 : k + 1 + d1 + 1 + d2 + 1 = k + (3 + d1 + d2) := by omega
    rw [e2]
    exact C _ _ _ _ (sk_a4_tr (sk_a4_tr (sk_a4_tr (sk_a4_tr a1 a2 (by omega)) a3 (by omega)) a4 (by omega)) a5 (by omega))
theorem sk_g3a {s p q : Nat} {r : Bool} {vs es : sk_F} {lc : Nat} {la : sk_F} {pc : Nat} {pa : sk_F} {v : Int32} {lc' : Nat} {la' : sk_F} (hsN : s < N) (hk : sk s = 3) (hp : p < M) (h1 : sx s = nI p) (hq : q < N) (h2 : sy s = nI q) (X : sk_EvX M ek ex ew od vs es p lc la v lc' la') (Y : sk_EvY M ek ex ey ez ew vs es p lc la v lc' la') (hl : lc' ≤ lc + 30) (hw : sk_w sw q + 1 ≤ sk_w sw s) (wq : 1 ≤ sk_w sw q) (hsec : ¬ sec p = 0) (hz : sz s = -1) {B1 : Nat}
    (G1 : sk_G M N ek ex ey ez ew od sec sk sx sy sz sw q 0 (r && decide (¬ v = 0)) vs es lc' la' pc pa B1) {Bd : Nat} (hB : 3 + B1 ≤ Bd) : sk_G M N ek ex ey ez ew od sec sk sx sy sz sw s 0 r vs es lc la pc pa Bd := by
  obtain ⟨vs1, es1, lc1, la1, pc1, pa1, c1, d1, i1, i2, i3, i4, X1, Y1⟩ := G1
  refine ⟨vs1, es1, lc1, la1, pc1, pa1, 1 + c1, 2 + d1, by omega, by omega, by omega, by omega, ?_, ?_⟩
  · intro W R n step b ps pt pr hb hc hs C
    have e1 : n + (1 + c1) = n + c1 + 1 := by omega
    rw [e1]
    refine R.2.2.2.1 (n + c1) step b vs es lc la pc pa ps pt pr s 0 r p q v lc' la' hsN (by omega) (by omega) hs hk hp h1 hq h2 X hsec hz ?_
    intro ps' pt' pr' a1 k1
    refine X1 W R n (step + 1) b ps' pt' pr' (by omega) (by omega) k1 ?_
    intro ps2 pt2 pr2 a2
    have e2 : step + 1 + c1 = step + (1 + c1) := by omega
    rw [e2]
    exact C _ _ _ (sk_ag_tr a1 a2 (Nat.le_refl _))
  · intro W R n k b dg st rl ch hb hc hs C
    have e1 : n + (2 + d1) = n + 1 + d1 + 1 := by omega
    rw [e1]
    refine R.2.2.2.2.2.1 _ k b vs es lc la pc pa dg st rl ch s 0 r p q v lc' la' hsN (by omega) (by omega) hs hk rfl hp h1 hq h2 Y hsec ?_
    intro dg1 st1 rl1 ch1 a1 k1 _ k2
    refine Y1 W R _ (k + 1) (b + 1) dg1 st1 rl1 ch1 (by omega) (by omega) k2 ?_
    intro dg2 st2 rl2 ch2 a2
    refine R.2.2.2.2.2.2.2.2.2.2.1 n (k + 1 + d1) b vs1 es1 lc1 la1 pc1 pa1 dg2 st2 rl2 ch2 s 1 r p hsN (by omega) (by omega) (sk_stk_a4 k1 a2 (by omega)) hk rfl hp h1 (Or.inl hz) ?_
    intro dg5 st5 rl5 ch5 a5
    have e2 : k + 1 + d1 + 1 = k + (2 + d1) := by omega
    rw [e2]
    exact C _ _ _ _ (sk_a4_tr (sk_a4_tr a1 a2 (by omega)) a5 (by omega))
theorem sk_g3b {s p q z : Nat} {r : Bool} {vs es : sk_F} {lc : Nat} {la : sk_F} {pc : Nat} {pa : sk_F} {v : Int32} {lc' : Nat} {la' : sk_F} (hsN : s < N) (hk : sk s = 3) (hp : p < M) (h1 : sx s = nI p) (hq : q < N) (h2 : sy s = nI q) (X : sk_EvX M ek ex ew od vs es p lc la v lc' la') (Y : sk_EvY M ek ex ey ez ew vs es p lc la v lc' la') (hl : lc' ≤ lc + 30) (hw : sk_w sw q + sk_w sw z + 1 ≤ sk_w sw s) (wq : 1 ≤ sk_w sw q) (wz : 1 ≤ sk_w sw z) (hsec : ¬ sec p = 0) (hzN : z < N) (hz : sz s = nI z) {B1 B2 : Nat}
    (G1 : sk_G M N ek ex ey ez ew od sec sk sx sy sz sw q 0 (r && decide (¬ v = 0)) vs es lc' la' pc pa B1) (G2 : ∀ (vs1 es1 : sk_F) (lc1 : Nat) (la1 : sk_F) (pc1 : Nat) (pa1 : sk_F), lc1 ≤ lc' + 31 * B1 → pc1 ≤ pc + B1 → sk_G M N ek ex ey ez ew od sec sk sx sy sz sw z 0 (r && decide (v = 0)) vs1 es1 lc1 la1 pc1 pa1 B2) {Bd : Nat} (hB : 3 + B1 + B2 ≤ Bd) : sk_G M N ek ex ey ez ew od sec sk sx sy sz sw s 0 r vs es lc la pc pa Bd := by
  obtain ⟨vs1, es1, lc1, la1, pc1, pa1, c1, d1, i1, i2, i3, i4, X1, Y1⟩ := G1
  obtain ⟨vs2, es2, lc2, la2, pc2, pa2, c2, d2, j1, j2, j3, j4, X2, Y2⟩ := G2 vs1 es1 lc1 la1 pc1 pa1 (by omega) (by omega)
  refine ⟨vs2, es2, lc2, la2, pc2, pa2, 1 + c1 + c2, 3 + d1 + d2, by omega, by omega, by omega, by omega, ?_, ?_⟩
  · intro W R n step b ps pt pr hb hc hs C
    have e1 : n + (1 + c1 + c2) = n + c2 + c1 + 1 := by omega
    rw [e1]
    refine R.2.2.2.2.1 (n + c2 + c1) step b vs es lc la pc pa ps pt pr s 0 r p q z v lc' la' hsN (by omega) (by omega) hs hk hp h1 hq h2 X hsec hzN hz (by omega) ?_
    intro ps' pt' pr' a1 k1 k2
    refine sk_x2 X1 X2 R (by omega) (by omega) (by omega) k1 k2 ?_
    intro ps2 pt2 pr2 a2
    have e2 : step + 1 + c1 + c2 = step + (1 + c1 + c2) := by omega
    rw [e2]
    exact C _ _ _ (sk_ag_tr a1 a2 (Nat.le_refl _))
  · intro W R n k b dg st rl ch hb hc hs C
    have e1 : n + (3 + d1 + d2) = n + 1 + d2 + 1 + d1 + 1 := by omega
    rw [e1]
    refine R.2.2.2.2.2.1 _ k b vs es lc la pc pa dg st rl ch s 0 r p q v lc' la' hsN (by omega) (by omega) hs hk rfl hp h1 hq h2 Y hsec ?_
    intro dg1 st1 rl1 ch1 a1 k1 kc k2
    refine Y1 W R _ (k + 1) (b + 1) dg1 st1 rl1 ch1 (by omega) (by omega) k2 ?_
    intro dg2 st2 rl2 ch2 a2
    refine R.2.2.2.2.2.2.2.2.1 _ (k + 1 + d1) b vs1 es1 lc1 la1 pc1 pa1 dg2 st2 rl2 ch2 s 1 r p z (decide (¬ v = 0)) hsN (by omega) (by omega) (sk_stk_a4 k1 a2 (by omega)) hk rfl hp h1 hsec hzN hz ((a2 b (by omega)).2.2.2.trans kc) ?_
    intro dg3 st3 rl3 ch3 a3 k3 k4
    have er : (r && !decide (¬ v = 0)) = (r && decide (v = 0)) := by by_cases hv : v = 0 <;> simp [hv]
    rw [er] at k4
    refine Y2 W R _ (k + 1 + d1 + 1) (b + 1) dg3 st3 rl3 ch3 (by omega) (by omega) k4 ?_
    intro dg4 st4 rl4 ch4 a4
    refine R.2.2.2.2.2.2.2.2.2.2.2.1 n (k + 1 + d1 + 1 + d2) b vs2 es2 lc2 la2 pc2 pa2 dg4 st4 rl4 ch4 s 2 r p hsN (by omega) (by omega) (sk_stk_a4 k3 a4 (by omega)) hk rfl hp h1 ?_
    intro dg5 st5 rl5 ch5 a5
    have e2 : k + 1 + d1 + 1 + d2 + 1 = k + (3 + d1 + d2) := by omega
    rw [e2]
    exact C _ _ _ _ (sk_a4_tr (sk_a4_tr (sk_a4_tr (sk_a4_tr a1 a2 (by omega)) a3 (by omega)) a4 (by omega)) a5 (by omega))
theorem sk_g3c {s p q : Nat} {r : Bool} {vs es : sk_F} {lc : Nat} {la : sk_F} {pc : Nat} {pa : sk_F} {v : Int32} {lc' : Nat} {la' : sk_F} (hsN : s < N) (hk : sk s = 3) (hp : p < M) (h1 : sx s = nI p) (hq : q < N) (h2 : sy s = nI q) (X : sk_EvX M ek ex ew od vs es p lc la v lc' la') (Y : sk_EvY M ek ex ey ez ew vs es p lc la v lc' la') (hl : lc' ≤ lc + 30) (hw : sk_w sw q + 1 ≤ sk_w sw s) (wq : 1 ≤ sk_w sw q) (hsec : sec p = 0) (hv : ¬ v = 0) (hz : sz s = -1 ∨ ∃ z, z < N ∧ sz s = nI z) (hl2 : lc + 31 ≤ 2 ^ 30) {B1 : Nat}
    (G1 : sk_G M N ek ex ey ez ew od sec sk sx sy sz sw q 0 r vs es (lc' + 1) (sk_put 200 lc' la' 1) pc pa B1) {Bd : Nat} (hB : 3 + B1 ≤ Bd) : sk_G M N ek ex ey ez ew od sec sk sx sy sz sw s 0 r vs es lc la pc pa Bd := by
  obtain ⟨vs1, es1, lc1, la1, pc1, pa1, c1, d1, i1, i2, i3, i4, X1, Y1⟩ := G1
  refine ⟨vs1, es1, lc1, la1, pc1, pa1, 1 + c1, 2 + d1, by omega, by omega, by omega, by omega, ?_, ?_⟩
  · intro W R n step b ps pt pr hb hc hs C
    have e1 : n + (1 + c1) = n + c1 + 1 := by omega
    rw [e1]
    refine R.2.2.2.2.2.1 (n + c1) step b vs es lc la pc pa ps pt pr s 0 r p q v lc' la' hsN (by omega) (by omega) hs hk hp h1 hq h2 X hsec hv (by omega) ?_
    intro ps' pt' pr' a1 k1
    refine X1 W R n (step + 1) b ps' pt' pr' (by omega) (by omega) k1 ?_
    intro ps2 pt2 pr2 a2
    have e2 : step + 1 + c1 = step + (1 + c1) := by omega
    rw [e2]
    exact C _ _ _ (sk_ag_tr a1 a2 (Nat.le_refl _))
  · intro W R n k b dg st rl ch hb hc hs C
    have e1 : n + (2 + d1) = n + 1 + d1 + 1 := by omega
    rw [e1]
    refine R.2.2.2.2.2.2.1 _ k b vs es lc la pc pa dg st rl ch s 0 r p q v lc' la' hsN (by omega) (by omega) hs hk rfl hp h1 hq h2 Y hsec hv (by omega) ?_
    intro dg1 st1 rl1 ch1 a1 k1 kc k2
    refine Y1 W R _ (k + 1) (b + 1) dg1 st1 rl1 ch1 (by omega) (by omega) k2 ?_
    intro dg2 st2 rl2 ch2 a2
    have hz2 : sz s = -1 ∨ ∃ z, z < N ∧ sz s = nI z ∧ sec p = 0 ∧ ch2 b = sk_bI true := by
      rcases hz with hz | ⟨z, z1, z2⟩
      · exact Or.inl hz
      · exact Or.inr ⟨z, z1, z2, hsec, (a2 b (by omega)).2.2.2.trans kc⟩
    refine R.2.2.2.2.2.2.2.2.2.2.1 n (k + 1 + d1) b vs1 es1 lc1 la1 pc1 pa1 dg2 st2 rl2 ch2 s 1 r p hsN (by omega) (by omega) (sk_stk_a4 k1 a2 (by omega)) hk rfl hp h1 hz2 ?_
    intro dg5 st5 rl5 ch5 a5
    have e2 : k + 1 + d1 + 1 = k + (2 + d1) := by omega
    rw [e2]
    exact C _ _ _ _ (sk_a4_tr (sk_a4_tr a1 a2 (by omega)) a5 (by omega))
theorem sk_g3d {s p q : Nat} {r : Bool} {vs es : sk_F} {lc : Nat} {la : sk_F} {pc : Nat} {pa : sk_F} {v : Int32} {lc' : Nat} {la' : sk_F} (hsN : s < N) (hk : sk s = 3) (hp : p < M) (h1 : sx s = nI p) (hq : q < N) (h2 : sy s = nI q) (X : sk_EvX M ek ex ew od vs es p lc la v lc' la') (Y : sk_EvY M ek ex ey ez ew vs es p lc la v lc' la') (hl : lc' ≤ lc + 30) (hw : 1 ≤ sk_w sw s) (hsec : sec p = 0) (hv : v = 0) (hz : sz s = -1) (hl2 : lc + 31 ≤ 2 ^ 30) {Bd : Nat} (hB : 3 ≤ Bd) : sk_G M N ek ex ey ez ew od sec sk sx sy sz sw s 0 r vs es lc la pc pa Bd := by
  refine ⟨vs, es, lc' + 1, (sk_put 200 lc' la' 0), pc, pa, 1, 2, by omega, by omega, by omega, by omega, ?_, ?_⟩
  · intro W R n step b ps pt pr hb hc hs C
    exact R.2.2.2.2.2.2.1 n step b vs es lc la pc pa ps pt pr s 0 r p q v lc' la' hsN (by omega) (by omega) hs hk hp h1 hq h2 X hsec hv hz (by omega) (C ps pt pr (fun _ _ => ⟨rfl, rfl, rfl⟩))
  · intro W R n k b dg st rl ch hb hc hs C
    refine R.2.2.2.2.2.2.2.1 (n + 1) k b vs es lc la pc pa dg st rl ch s 0 r p q v lc' la' hsN (by omega) (by omega) hs hk rfl hp h1 hq h2 Y hsec hv (by omega) ?_
    intro dg1 st1 rl1 ch1 a1 k1 kc
    refine R.2.2.2.2.2.2.2.2.2.2.1 n (k + 1) b vs es (lc' + 1) (sk_put 200 lc' la' 0) pc pa dg1 st1 rl1 ch1 s 1 r p hsN (by omega) (by omega) k1 hk rfl hp h1 (Or.inl hz) ?_
    intro dg5 st5 rl5 ch5 a5
    exact C _ _ _ _ (sk_a4_tr a1 a5 (by omega))
theorem sk_g3e {s p q z : Nat} {r : Bool} {vs es : sk_F} {lc : Nat} {la : sk_F} {pc : Nat} {pa : sk_F} {v : Int32} {lc' : Nat} {la' : sk_F} (hsN : s < N) (hk : sk s = 3) (hp : p < M) (h1 : sx s = nI p) (hq : q < N) (h2 : sy s = nI q) (X : sk_EvX M ek ex ew od vs es p lc la v lc' la') (Y : sk_EvY M ek ex ey ez ew vs es p lc la v lc' la') (hl : lc' ≤ lc + 30) (hw : sk_w sw z + 1 ≤ sk_w sw s) (wz : 1 ≤ sk_w sw z) (hsec : sec p = 0) (hv : v = 0) (hzN : z < N) (hz : sz s = nI z) (hl2 : lc + 31 ≤ 2 ^ 30) {B1 : Nat}
    (G1 : sk_G M N ek ex ey ez ew od sec sk sx sy sz sw z 0 r vs es (lc' + 1) (sk_put 200 lc' la' 0) pc pa B1) {Bd : Nat} (hB : 3 + B1 ≤ Bd) : sk_G M N ek ex ey ez ew od sec sk sx sy sz sw s 0 r vs es lc la pc pa Bd := by
  obtain ⟨vs1, es1, lc1, la1, pc1, pa1, c1, d1, i1, i2, i3, i4, X1, Y1⟩ := G1
  refine ⟨vs1, es1, lc1, la1, pc1, pa1, 1 + c1, 3 + d1, by omega, by omega, by omega, by omega, ?_, ?_⟩
  · intro W R n step b ps pt pr hb hc hs C
    have e1 : n + (1 + c1) = n + c1 + 1 := by omega
    rw [e1]
    refine R.2.2.2.2.2.2.2.1 (n + c1) step b vs es lc la pc pa ps pt pr s 0 r p q z v lc' la' hsN (by omega) (by omega) hs hk hp h1 hq h2 X hsec hv hzN hz (by omega) ?_
    intro ps' pt' pr' a1 k1
    refine X1 W R n (step + 1) b ps' pt' pr' (by omega) (by omega) k1 ?_
    intro ps2 pt2 pr2 a2
    have e2 : step + 1 + c1 = step + (1 + c1) := by omega
    rw [e2]
    exact C _ _ _ (sk_ag_tr a1 a2 (Nat.le_refl _))
  · intro W R n k b dg st rl ch hb hc hs C
    have e1 : n + (3 + d1) = n + 1 + d1 + 1 + 1 := by omega
    rw [e1]
    refine R.2.2.2.2.2.2.2.1 _ k b vs es lc la pc pa dg st rl ch s 0 r p q v lc' la' hsN (by omega) (by omega) hs hk rfl hp h1 hq h2 Y hsec hv (by omega) ?_
    intro dg1 st1 rl1 ch1 a1 k1 kc
    refine R.2.2.2.2.2.2.2.2.2.1 _ (k + 1) b vs es (lc' + 1) (sk_put 200 lc' la' 0) pc pa dg1 st1 rl1 ch1 s 1 r p z hsN (by omega) (by omega) k1 hk rfl hp h1 hsec hzN hz kc ?_
    intro dg3 st3 rl3 ch3 a3 k3 k4
    refine Y1 W R _ (k + 1 + 1) (b + 1) dg3 st3 rl3 ch3 (by omega) (by omega) k4 ?_
    intro dg4 st4 rl4 ch4 a4
    refine R.2.2.2.2.2.2.2.2.2.2.2.1 n (k + 1 + 1 + d1) b vs1 es1 lc1 la1 pc1 pa1 dg4 st4 rl4 ch4 s 2 r p hsN (by omega) (by omega) (sk_stk_a4 k3 a4 (by omega)) hk rfl hp h1 ?_
    intro dg5 st5 rl5 ch5 a5
    have e2 : k + 1 + 1 + d1 + 1 = k + (3 + d1) := by omega
    rw [e2]
    exact C _ _ _ _ (sk_a4_tr (sk_a4_tr (sk_a4_tr a1 a3 (by omega)) a4 (by omega)) a5 (by omega))
theorem sk_g4 {s x q : Nat} {r : Bool} (hsN : s < N) (hk : sk s = 4) (hx : x ≤ 6) (h1 : sx s = nI x) (hq : q < N) (h2 : sy s = nI q) (hw : sk_w sw q + 1 ≤ sk_w sw s) (wq : 1 ≤ sk_w sw q) {B1 U V : Nat}
    (G1 : ∀ (vs es : sk_F) (lc : Nat) (la : sk_F) (pc : Nat) (pa : sk_F), lc + 31 * B1 ≤ U → pc + B1 ≤ V → sk_G M N ek ex ey ez ew od sec sk sx sy sz sw q 0 r vs es lc la pc pa B1) :
    ∀ (m t : Nat) (vs es : sk_F) (lc : Nat) (la : sk_F) (pc : Nat) (pa : sk_F), t + m = x → lc + 31 * (m * (1 + B1) + 1) ≤ U → pc + (m * (1 + B1) + 1) ≤ V → sk_G M N ek ex ey ez ew od sec sk sx sy sz sw s t r vs es lc la pc pa (m * (1 + B1) + 1) := by
  intro m
  induction m with
  | zero =>
    intro t vs es lc la pc pa ht hU hV
    refine ⟨vs, es, lc, la, pc, pa, 1, 1, by omega, by omega, by omega, by omega, ?_, ?_⟩
    · intro W R n step b ps pt pr hb hc hs C
      exact R.2.2.2.2.2.2.2.2.2.1 n step b vs es lc la pc pa ps pt pr s t r x hsN (by omega) (by omega) hs hk hx h1 (by omega) (C ps pt pr (fun _ _ => ⟨rfl, rfl, rfl⟩))
    · intro W R n k b dg st rl ch hb hc hs C
      exact R.2.2.2.2.2.2.2.2.2.2.2.2.2.1 n k b vs es lc la pc pa dg st rl ch s t r x hsN (by omega) (by omega) hs hk hx h1 (by omega) C
  | succ m ih =>
    intro t vs es lc la pc pa ht hU hV
    have em : (m + 1) * (1 + B1) + 1 = m * (1 + B1) + 1 + (1 + B1) := by rw [Nat.add_mul]; omega
    rw [em] at hU hV ⊢
    obtain ⟨vs1, es1, lc1, la1, pc1, pa1, c1, d1, i1, i2, i3, i4, X1, Y1⟩ := G1 vs es lc la pc pa (by omega) (by omega)
    obtain ⟨vs2, es2, lc2, la2, pc2, pa2, c2, d2, j1, j2, j3, j4, X2, Y2⟩ := ih (t + 1) vs1 es1 lc1 la1 pc1 pa1 (by omega) (by omega) (by omega)
    refine ⟨vs2, es2, lc2, la2, pc2, pa2, 1 + c1 + c2, 1 + d1 + d2, by omega, by omega, by omega, by omega, ?_, ?_⟩
    · intro W R n step b ps pt pr hb hc hs C
      have e1 : n + (1 + c1 + c2) = n + c2 + c1 + 1 := by omega
      rw [e1]
      refine R.2.2.2.2.2.2.2.2.1 (n + c2 + c1) step b vs es lc la pc pa ps pt pr s t r x q hsN (by omega) (by omega) hs hk hx h1 hq h2 (by omega) (by omega) ?_
      intro ps' pt' pr' a1 k1 k2
      refine sk_x2 X1 X2 R (by omega) (by omega) (by omega) k1 k2 ?_
      intro ps2 pt2 pr2 a2
      have e2 : step + 1 + c1 + c2 = step + (1 + c1 + c2) := by omega
      rw [e2]
      exact C _ _ _ (sk_ag_tr a1 a2 (Nat.le_refl _))
    · intro W R n k b dg st rl ch hb hc hs C
      have e1 : n + (1 + d1 + d2) = n + d2 + d1 + 1 := by omega
      rw [e1]
      refine R.2.2.2.2.2.2.2.2.2.2.2.2.1 _ k b vs es lc la pc pa dg st rl ch s t r x q hsN (by omega) (by omega) hs hk hx h1 hq h2 (by omega) ?_
      intro dg1 st1 rl1 ch1 a1 k1 k2
      refine Y1 W R _ (k + 1) (b + 1) dg1 st1 rl1 ch1 (by omega) (by omega) k2 ?_
      intro dg2 st2 rl2 ch2 a2
      refine Y2 W R n (k + 1 + d1) b dg2 st2 rl2 ch2 (by omega) (by omega) (sk_stk_a4 k1 a2 (by omega)) ?_
      intro dg3 st3 rl3 ch3 a3
      have e2 : k + 1 + d1 + d2 = k + (1 + d1 + d2) := by omega
      rw [e2]
      exact C _ _ _ _ (sk_a4_tr (sk_a4_tr a1 a2 (by omega)) a3 (by omega))
theorem sk_g5 {s p q : Nat} {r : Bool} (hsN : s < N) (hk : sk s = 5) (hp : p < M) (h1 : sx s = nI p) (hq : q < N) (h2 : sy s = nI q) (hw : sk_w sw q + 1 ≤ sk_w sw s) (wq : 1 ≤ sk_w sw q) {B1 U V : Nat} (hU0 : U ≤ 2 ^ 30)
    (E : ∀ (vs es : sk_F) (lc : Nat) (la : sk_F), lc + 31 ≤ 2 ^ 30 → ∃ (v : Int32) (lc' : Nat) (la' : sk_F), lc' ≤ lc + 30 ∧ sk_EvX M ek ex ew od vs es p lc la v lc' la' ∧ sk_EvY M ek ex ey ez ew vs es p lc la v lc' la')
    (G1 : ∀ (vs es : sk_F) (lc : Nat) (la : sk_F) (pc : Nat) (pa : sk_F), lc + 31 * B1 ≤ U → pc + B1 ≤ V → sk_G M N ek ex ey ez ew od sec sk sx sy sz sw q 0 r vs es lc la pc pa B1) :
    ∀ (m t : Nat) (vs es : sk_F) (lc : Nat) (la : sk_F) (pc : Nat) (pa : sk_F), t + m = 6 → lc + 31 * (m * (1 + B1) + 1) ≤ U → pc + (m * (1 + B1) + 1) ≤ V → sk_G M N ek ex ey ez ew od sec sk sx sy sz sw s t r vs es lc la pc pa (m * (1 + B1) + 1) := by
  intro m
  induction m with
  | zero =>
    intro t vs es lc la pc pa ht hU hV
    refine ⟨vs, es, lc, la, pc, pa, 1, 1, by omega, by omega, by omega, by omega, ?_, ?_⟩
    · intro W R n step b ps pt pr hb hc hs C
      exact R.2.2.2.2.2.2.2.2.2.2.2.2.1 n step b vs es lc la pc pa ps pt pr s t r hsN (by omega) (by omega) hs hk (by omega) (C ps pt pr (fun _ _ => ⟨rfl, rfl, rfl⟩))
    · intro W R n k b dg st rl ch hb hc hs C
      exact R.2.2.2.2.2.2.2.2.2.2.2.2.2.2.2.2.1 n k b vs es lc la pc pa dg st rl ch s t r hsN (by omega) (by omega) hs hk (by omega) C
  | succ m ih =>
    intro t vs es lc la pc pa ht hU hV
    have em : (m + 1) * (1 + B1) + 1 = m * (1 + B1) + 1 + (1 + B1) := by rw [Nat.add_mul]; omega
    rw [em] at hU hV ⊢
    obtain ⟨v, lc', la', hl, X, Y⟩ := E vs es lc la (by omega)
    by_cases hv : v = 0
    · refine ⟨vs, es, lc' + 1, (sk_put 200 lc' la' 2), pc, pa, 1, 1, by omega, by omega, by omega, by omega, ?_, ?_⟩
      · intro W R n step b ps pt pr hb hc hs C
        exact R.2.2.2.2.2.2.2.2.2.2.2.1 n step b vs es lc la pc pa ps pt pr s t r p v lc' la' hsN (by omega) (by omega) hs hk hp h1 (by omega) X (by omega) hv (C ps pt pr (fun _ _ => ⟨rfl, rfl, rfl⟩))
      · intro W R n k b dg st rl ch hb hc hs C
        exact R.2.2.2.2.2.2.2.2.2.2.2.2.2.2.2.1 n k b vs es lc la pc pa dg st rl ch s t r p v lc' la' hsN (by omega) (by omega) hs hk hp h1 (by omega) Y (by omega) hv C
    · obtain ⟨vs1, es1, lc1, la1, pc1, pa1, c1, d1, i1, i2, i3, i4, X1, Y1⟩ := G1 vs es (lc' + 1) (sk_put 200 lc' la' 3) pc pa (by omega) (by omega)
      obtain ⟨vs2, es2, lc2, la2, pc2, pa2, c2, d2, j1, j2, j3, j4, X2, Y2⟩ := ih (t + 1) vs1 es1 lc1 la1 pc1 pa1 (by omega) (by omega) (by omega)
      refine ⟨vs2, es2, lc2, la2, pc2, pa2, 1 + c1 + c2, 1 + d1 + d2, by omega, by omega, by omega, by omega, ?_, ?_⟩
      · intro W R n step b ps pt pr hb hc hs C
        have e1 : n + (1 + c1 + c2) = n + c2 + c1 + 1 := by omega
        rw [e1]
        refine R.2.2.2.2.2.2.2.2.2.2.1 (n + c2 + c1) step b vs es lc la pc pa ps pt pr s t r p q v lc' la' hsN (by omega) (by omega) hs hk hp h1 (by omega) X (by omega) hq h2 hv (by omega) ?_
        intro ps' pt' pr' a1 k1 k2
        refine sk_x2 X1 X2 R (by omega) (by omega) (by omega) k1 k2 ?_
        intro ps2 pt2 pr2 a2
        have e2 : step + 1 + c1 + c2 = step + (1 + c1 + c2) := by omega
        rw [e2]
        exact C _ _ _ (sk_ag_tr a1 a2 (Nat.le_refl _))
      · intro W R n k b dg st rl ch hb hc hs C
        have e1 : n + (1 + d1 + d2) = n + d2 + d1 + 1 := by omega
        rw [e1]
        refine R.2.2.2.2.2.2.2.2.2.2.2.2.2.2.1 _ k b vs es lc la pc pa dg st rl ch s t r p q v lc' la' hsN (by omega) (by omega) hs hk hp h1 (by omega) Y (by omega) hq h2 hv ?_
        intro dg1 st1 rl1 ch1 a1 k1 k2
        refine Y1 W R _ (k + 1) (b + 1) dg1 st1 rl1 ch1 (by omega) (by omega) k2 ?_
        intro dg2 st2 rl2 ch2 a2
        refine Y2 W R n (k + 1 + d1) b dg2 st2 rl2 ch2 (by omega) (by omega) (sk_stk_a4 k1 a2 (by omega)) ?_
        intro dg3 st3 rl3 ch3 a3
        have e2 : k + 1 + d1 + d2 = k + (1 + d1 + d2) := by omega
        rw [e2]
        exact C _ _ _ _ (sk_a4_tr (sk_a4_tr a1 a2 (by omega)) a3 (by omega))
end
