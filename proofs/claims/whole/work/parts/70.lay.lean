/-! Where the objects lie: a basin's block, the office, the model. -/
abbrev yA (S : mH) (a k n : Int) : Prop := S.2.1 a = k ∧ S.2.2.1 a = n
def yPl (S : mH) (q : Int) : Prop := S.2.1 q = 5 ∧ (S.1 q 1 = q + 1 ∧ S.1 q 2 = q + 2 ∧ S.1 q 3 = q + 3) ∧ yA S (q + 1) 50 9 ∧ yA S (q + 2) 50 8 ∧ yA S (q + 3) 50 24
def yRe (S : mH) (q : Int) : Prop := S.2.1 q = 6 ∧ (S.1 q 3 = q + 1 ∧ S.1 q 4 = q + 2) ∧ yA S (q + 1) 50 8 ∧ yA S (q + 2) 50 8
def yRi (S : mH) (q : Int) : Prop := S.2.1 q = 8 ∧ (S.1 q 7 = q + 1 ∧ S.1 q 8 = q + 2 ∧ S.1 q 9 = q + 3 ∧ S.1 q 10 = q + 4) ∧ yA S (q + 1) 50 8 ∧ yA S (q + 2) 50 8 ∧ yA S (q + 3) 50 24 ∧ yA S (q + 4) 50 60
def yB (S : mH) (b : Int) : Prop := S.2.1 b = 1 ∧ (S.1 b 4 = b + 1 ∧ S.1 b 5 = b + 2 ∧ S.1 b 6 = b + 3 ∧ S.1 b 7 = b + 4) ∧ yA S (b + 1) 64 6 ∧ yA S (b + 2) 65 9 ∧ yA S (b + 3) 67 10 ∧ yA S (b + 4) 51 3 ∧
  (∀ i : Int, 0 ≤ i → i < 6 → S.1 (b + 1) i = b + (5 + 4 * i) ∧ yPl S (b + (5 + 4 * i))) ∧ (∀ i : Int, 0 ≤ i → i < 9 → S.1 (b + 2) i = b + (29 + 3 * i) ∧ yRe S (b + (29 + 3 * i))) ∧ ∀ i : Int, 0 ≤ i → i < 10 → S.1 (b + 3) i = b + (56 + 5 * i) ∧ yRi S (b + (56 + 5 * i))
section YB
variable {S : mH} {b : Int}
theorem yb_k (h : yB S b) : S.2.1 b = 1 := h.1
theorem yb_4 (h : yB S b) : S.1 b 4 = b + 1 := h.2.1.1
theorem yb_5 (h : yB S b) : S.1 b 5 = b + 2 := h.2.1.2.1
theorem yb_6 (h : yB S b) : S.1 b 6 = b + 3 := h.2.1.2.2.1
theorem yb_7 (h : yB S b) : S.1 b 7 = b + 4 := h.2.1.2.2.2
theorem yb_k1 (h : yB S b) : S.2.1 (b + 1) = 64 := h.2.2.1.1
theorem yb_l1 (h : yB S b) : S.2.2.1 (b + 1) = 6 := h.2.2.1.2
theorem yb_k2 (h : yB S b) : S.2.1 (b + 2) = 65 := h.2.2.2.1.1
theorem yb_l2 (h : yB S b) : S.2.2.1 (b + 2) = 9 := h.2.2.2.1.2
theorem yb_k3 (h : yB S b) : S.2.1 (b + 3) = 67 := h.2.2.2.2.1.1
theorem yb_l3 (h : yB S b) : S.2.2.1 (b + 3) = 10 := h.2.2.2.2.1.2
theorem yb_k4 (h : yB S b) : S.2.1 (b + 4) = 51 := h.2.2.2.2.2.1.1
theorem yb_l4 (h : yB S b) : S.2.2.1 (b + 4) = 3 := h.2.2.2.2.2.1.2
theorem yb_p (h : yB S b) {i : Int} (h0 : 0 ≤ i) (h1 : i < 6) : S.1 (b + 1) i = b + (5 + 4 * i) := (h.2.2.2.2.2.2.1 i h0 h1).1
theorem yb_pk (h : yB S b) {i : Int} (h0 : 0 ≤ i) (h1 : i < 6) : S.2.1 (b + (5 + 4 * i)) = 5 := (h.2.2.2.2.2.2.1 i h0 h1).2.1
theorem yb_p1 (h : yB S b) {i : Int} (h0 : 0 ≤ i) (h1 : i < 6) : S.1 (b + (5 + 4 * i)) 1 = b + (5 + 4 * i) + 1 := (h.2.2.2.2.2.2.1 i h0 h1).2.2.1.1
theorem yb_pk1 (h : yB S b) {i : Int} (h0 : 0 ≤ i) (h1 : i < 6) : S.2.1 (b + (5 + 4 * i) + 1) = 50 := (h.2.2.2.2.2.2.1 i h0 h1).2.2.2.1.1
theorem yb_pl1 (h : yB S b) {i : Int} (h0 : 0 ≤ i) (h1 : i < 6) : S.2.2.1 (b + (5 + 4 * i) + 1) = 9 := (h.2.2.2.2.2.2.1 i h0 h1).2.2.2.1.2
theorem yb_p2 (h : yB S b) {i : Int} (h0 : 0 ≤ i) (h1 : i < 6) : S.1 (b + (5 + 4 * i)) 2 = b + (5 + 4 * i) + 2 := (h.2.2.2.2.2.2.1 i h0 h1).2.2.1.2.1
theorem yb_pk2 (h : yB S b) {i : Int} (h0 : 0 ≤ i) (h1 : i < 6) : S.2.1 (b + (5 + 4 * i) + 2) = 50 := (h.2.2.2.2.2.2.1 i h0 h1).2.2.2.2.1.1
theorem yb_pl2 (h : yB S b) {i : Int} (h0 : 0 ≤ i) (h1 : i < 6) : S.2.2.1 (b + (5 + 4 * i) + 2) = 8 := (h.2.2.2.2.2.2.1 i h0 h1).2.2.2.2.1.2
theorem yb_p3 (h : yB S b) {i : Int} (h0 : 0 ≤ i) (h1 : i < 6) : S.1 (b + (5 + 4 * i)) 3 = b + (5 + 4 * i) + 3 := (h.2.2.2.2.2.2.1 i h0 h1).2.2.1.2.2
theorem yb_pk3 (h : yB S b) {i : Int} (h0 : 0 ≤ i) (h1 : i < 6) : S.2.1 (b + (5 + 4 * i) + 3) = 50 := (h.2.2.2.2.2.2.1 i h0 h1).2.2.2.2.2.1
theorem yb_pl3 (h : yB S b) {i : Int} (h0 : 0 ≤ i) (h1 : i < 6) : S.2.2.1 (b + (5 + 4 * i) + 3) = 24 := (h.2.2.2.2.2.2.1 i h0 h1).2.2.2.2.2.2
theorem yb_r (h : yB S b) {i : Int} (h0 : 0 ≤ i) (h1 : i < 9) : S.1 (b + 2) i = b + (29 + 3 * i) := (h.2.2.2.2.2.2.2.1 i h0 h1).1
theorem yb_rk (h : yB S b) {i : Int} (h0 : 0 ≤ i) (h1 : i < 9) : S.2.1 (b + (29 + 3 * i)) = 6 := (h.2.2.2.2.2.2.2.1 i h0 h1).2.1
theorem yb_r3 (h : yB S b) {i : Int} (h0 : 0 ≤ i) (h1 : i < 9) : S.1 (b + (29 + 3 * i)) 3 = b + (29 + 3 * i) + 1 := (h.2.2.2.2.2.2.2.1 i h0 h1).2.2.1.1
theorem yb_rk3 (h : yB S b) {i : Int} (h0 : 0 ≤ i) (h1 : i < 9) : S.2.1 (b + (29 + 3 * i) + 1) = 50 := (h.2.2.2.2.2.2.2.1 i h0 h1).2.2.2.1.1
theorem yb_rl3 (h : yB S b) {i : Int} (h0 : 0 ≤ i) (h1 : i < 9) : S.2.2.1 (b + (29 + 3 * i) + 1) = 8 := (h.2.2.2.2.2.2.2.1 i h0 h1).2.2.2.1.2
theorem yb_r4 (h : yB S b) {i : Int} (h0 : 0 ≤ i) (h1 : i < 9) : S.1 (b + (29 + 3 * i)) 4 = b + (29 + 3 * i) + 2 := (h.2.2.2.2.2.2.2.1 i h0 h1).2.2.1.2
theorem yb_rk4 (h : yB S b) {i : Int} (h0 : 0 ≤ i) (h1 : i < 9) : S.2.1 (b + (29 + 3 * i) + 2) = 50 := (h.2.2.2.2.2.2.2.1 i h0 h1).2.2.2.2.1
theorem yb_rl4 (h : yB S b) {i : Int} (h0 : 0 ≤ i) (h1 : i < 9) : S.2.2.1 (b + (29 + 3 * i) + 2) = 8 := (h.2.2.2.2.2.2.2.1 i h0 h1).2.2.2.2.2
theorem yb_g (h : yB S b) {i : Int} (h0 : 0 ≤ i) (h1 : i < 10) : S.1 (b + 3) i = b + (56 + 5 * i) := (h.2.2.2.2.2.2.2.2 i h0 h1).1
theorem yb_gk (h : yB S b) {i : Int} (h0 : 0 ≤ i) (h1 : i < 10) : S.2.1 (b + (56 + 5 * i)) = 8 := (h.2.2.2.2.2.2.2.2 i h0 h1).2.1
theorem yb_g7 (h : yB S b) {i : Int} (h0 : 0 ≤ i) (h1 : i < 10) : S.1 (b + (56 + 5 * i)) 7 = b + (56 + 5 * i) + 1 := (h.2.2.2.2.2.2.2.2 i h0 h1).2.2.1.1
theorem yb_gk7 (h : yB S b) {i : Int} (h0 : 0 ≤ i) (h1 : i < 10) : S.2.1 (b + (56 + 5 * i) + 1) = 50 := (h.2.2.2.2.2.2.2.2 i h0 h1).2.2.2.1.1
theorem yb_gl7 (h : yB S b) {i : Int} (h0 : 0 ≤ i) (h1 : i < 10) : S.2.2.1 (b + (56 + 5 * i) + 1) = 8 := (h.2.2.2.2.2.2.2.2 i h0 h1).2.2.2.1.2
theorem yb_g8 (h : yB S b) {i : Int} (h0 : 0 ≤ i) (h1 : i < 10) : S.1 (b + (56 + 5 * i)) 8 = b + (56 + 5 * i) + 2 := (h.2.2.2.2.2.2.2.2 i h0 h1).2.2.1.2.1
theorem yb_gk8 (h : yB S b) {i : Int} (h0 : 0 ≤ i) (h1 : i < 10) : S.2.1 (b + (56 + 5 * i) + 2) = 50 := (h.2.2.2.2.2.2.2.2 i h0 h1).2.2.2.2.1.1
theorem yb_gl8 (h : yB S b) {i : Int} (h0 : 0 ≤ i) (h1 : i < 10) : S.2.2.1 (b + (56 + 5 * i) + 2) = 8 := (h.2.2.2.2.2.2.2.2 i h0 h1).2.2.2.2.1.2
theorem yb_g9 (h : yB S b) {i : Int} (h0 : 0 ≤ i) (h1 : i < 10) : S.1 (b + (56 + 5 * i)) 9 = b + (56 + 5 * i) + 3 := (h.2.2.2.2.2.2.2.2 i h0 h1).2.2.1.2.2.1
theorem yb_gk9 (h : yB S b) {i : Int} (h0 : 0 ≤ i) (h1 : i < 10) : S.2.1 (b + (56 + 5 * i) + 3) = 50 := (h.2.2.2.2.2.2.2.2 i h0 h1).2.2.2.2.2.1.1
theorem yb_gl9 (h : yB S b) {i : Int} (h0 : 0 ≤ i) (h1 : i < 10) : S.2.2.1 (b + (56 + 5 * i) + 3) = 24 := (h.2.2.2.2.2.2.2.2 i h0 h1).2.2.2.2.2.1.2
theorem yb_g10 (h : yB S b) {i : Int} (h0 : 0 ≤ i) (h1 : i < 10) : S.1 (b + (56 + 5 * i)) 10 = b + (56 + 5 * i) + 4 := (h.2.2.2.2.2.2.2.2 i h0 h1).2.2.1.2.2.2
theorem yb_gk10 (h : yB S b) {i : Int} (h0 : 0 ≤ i) (h1 : i < 10) : S.2.1 (b + (56 + 5 * i) + 4) = 50 := (h.2.2.2.2.2.2.2.2 i h0 h1).2.2.2.2.2.2.1
theorem yb_gl10 (h : yB S b) {i : Int} (h0 : 0 ≤ i) (h1 : i < 10) : S.2.2.1 (b + (56 + 5 * i) + 4) = 60 := (h.2.2.2.2.2.2.2.2 i h0 h1).2.2.2.2.2.2.2
theorem yb_pP (h : yB S b) {i : Int} (h0 : 0 ≤ i) (h1 : i < 6) : yPl S (b + (5 + 4 * i)) := (h.2.2.2.2.2.2.1 i h0 h1).2
theorem yb_rP (h : yB S b) {i : Int} (h0 : 0 ≤ i) (h1 : i < 9) : yRe S (b + (29 + 3 * i)) := (h.2.2.2.2.2.2.2.1 i h0 h1).2
theorem yb_gP (h : yB S b) {i : Int} (h0 : 0 ≤ i) (h1 : i < 10) : yRi S (b + (56 + 5 * i)) := (h.2.2.2.2.2.2.2.2 i h0 h1).2
end YB
section YP
variable {S : mH} {q : Int}
theorem yp_k (h : yPl S q) : S.2.1 q = 5 := h.1
theorem yp_1 (h : yPl S q) : S.1 q 1 = q + 1 := h.2.1.1
theorem yp_k1 (h : yPl S q) : S.2.1 (q + 1) = 50 := h.2.2.1.1
theorem yp_l1 (h : yPl S q) : S.2.2.1 (q + 1) = 9 := h.2.2.1.2
theorem yp_2 (h : yPl S q) : S.1 q 2 = q + 2 := h.2.1.2.1
theorem yp_k2 (h : yPl S q) : S.2.1 (q + 2) = 50 := h.2.2.2.1.1
theorem yp_l2 (h : yPl S q) : S.2.2.1 (q + 2) = 8 := h.2.2.2.1.2
theorem yp_3 (h : yPl S q) : S.1 q 3 = q + 3 := h.2.1.2.2
theorem yp_k3 (h : yPl S q) : S.2.1 (q + 3) = 50 := h.2.2.2.2.1
theorem yp_l3 (h : yPl S q) : S.2.2.1 (q + 3) = 24 := h.2.2.2.2.2
end YP
section YE
variable {S : mH} {q : Int}
theorem ye_k (h : yRe S q) : S.2.1 q = 6 := h.1
theorem ye_3 (h : yRe S q) : S.1 q 3 = q + 1 := h.2.1.1
theorem ye_k3 (h : yRe S q) : S.2.1 (q + 1) = 50 := h.2.2.1.1
theorem ye_l3 (h : yRe S q) : S.2.2.1 (q + 1) = 8 := h.2.2.1.2
theorem ye_4 (h : yRe S q) : S.1 q 4 = q + 2 := h.2.1.2
theorem ye_k4 (h : yRe S q) : S.2.1 (q + 2) = 50 := h.2.2.2.1
theorem ye_l4 (h : yRe S q) : S.2.2.1 (q + 2) = 8 := h.2.2.2.2
end YE
section YI
variable {S : mH} {q : Int}
theorem yi_k (h : yRi S q) : S.2.1 q = 8 := h.1
theorem yi_7 (h : yRi S q) : S.1 q 7 = q + 1 := h.2.1.1
theorem yi_k7 (h : yRi S q) : S.2.1 (q + 1) = 50 := h.2.2.1.1
theorem yi_l7 (h : yRi S q) : S.2.2.1 (q + 1) = 8 := h.2.2.1.2
theorem yi_8 (h : yRi S q) : S.1 q 8 = q + 2 := h.2.1.2.1
theorem yi_k8 (h : yRi S q) : S.2.1 (q + 2) = 50 := h.2.2.2.1.1
theorem yi_l8 (h : yRi S q) : S.2.2.1 (q + 2) = 8 := h.2.2.2.1.2
theorem yi_9 (h : yRi S q) : S.1 q 9 = q + 3 := h.2.1.2.2.1
theorem yi_k9 (h : yRi S q) : S.2.1 (q + 3) = 50 := h.2.2.2.2.1.1
theorem yi_l9 (h : yRi S q) : S.2.2.1 (q + 3) = 24 := h.2.2.2.2.1.2
theorem yi_10 (h : yRi S q) : S.1 q 10 = q + 4 := h.2.1.2.2.2
theorem yi_k10 (h : yRi S q) : S.2.1 (q + 4) = 50 := h.2.2.2.2.2.1
theorem yi_l10 (h : yRi S q) : S.2.2.1 (q + 4) = 60 := h.2.2.2.2.2.2
end YI
/-- the office at x; π: which block of a branch is its state of a number -/
def yNt : List (Int × Int × Int × Int) := [(2, 1, 50, 15), (3, 2, 50, 15), (4, 3, 50, 15), (5, 4, 50, 120), (6, 5, 50, 120), (7, 6, 51, 120), (8, 7, 50, 48), (9, 8, 50, 48), (10, 9, 51, 48), (11, 10, 51, 48), (12, 11, 50, 48), (14, 12, 50, 48), (15, 13, 50, 48), (16, 14, 50, 10)]
def yRt : List (Int × Int × Int × Int) := [(0, 1, 52, 900), (3, 2, 50, 901), (4, 3, 50, 901), (5, 4, 50, 901), (9, 5, 50, 60)]
def yNe (S : mH) (n e : Int) : Prop := S.2.1 n = 4 ∧ S.1 n 0 = e ∧ S.2.1 e = 3 ∧ ∀ q ∈ yNt, S.1 n q.1 = n + q.2.1 ∧ yA S (n + q.2.1) q.2.2.1 q.2.2.2
def yGn (S : mH) (s : Int) : Prop := S.2.1 s = 9 ∧ (S.1 s 0 = s + 1 ∧ S.1 s 1 = s + 2) ∧ yA S (s + 1) 52 100 ∧ yA S (s + 2) 50 31
def yRd (S : mH) (r : Int) : Prop := S.2.1 r = 7 ∧ (∀ q ∈ yRt, S.1 r q.1 = r + q.2.1 ∧ yA S (r + q.2.1) q.2.2.1 q.2.2.2) ∧ S.1 r 11 = r - 3 ∧ yGn S (r - 3)
def yWr (S : mH) (w : Int) : Prop := S.2.1 w = 10 ∧ S.1 w 0 = w + 1 ∧ yA S (w + 1) 52 6400 ∧ S.1 w 2 = w - 9 ∧ yGn S (w - 9)
def yX (S : mH) (x : Int) (π : Int → Int → Int) : Prop := S.2.1 x = 11 ∧ (S.1 x 0 = x + 1 ∧ S.1 x 4 = x + 2234 ∧ S.1 x 5 = x + 2341 ∧ S.1 x 6 = x + 2340 ∧ S.1 x 7 = x + 2359 ∧ S.1 x 8 = x + 2365 ∧ S.1 x 9 = x + 2367 ∧ S.1 x 10 = x + 2368) ∧ yA S (x + 1) 61 3 ∧
  (∀ k : Int, 0 ≤ k → k < 3 → (S.1 (x + 1) k = x + (2 + 744 * k) ∧ S.2.1 (x + (2 + 744 * k)) = 2 ∧ S.1 (x + (2 + 744 * k)) 0 = x + (2 + 744 * k) + 1 ∧ yA S (x + (2 + 744 * k) + 1) 60 7) ∧ ∀ j : Int, 0 ≤ j → j < 7 → (S.1 (x + (2 + 744 * k) + 1) j = x + (4 + 744 * k) + 106 * π k j ∧ 0 ≤ π k j ∧ π k j < 7 ∧ yB S (x + (4 + 744 * k) + 106 * j)) ∧ ∀ j' : Int, 0 ≤ j' → j' < 7 → π k j = π k j' → j = j') ∧ yB S (x + 2234) ∧
  (S.2.1 (x + 2340) = 3 ∧ yNe S (x + 2341) (x + 2340) ∧ yRd S (x + 2359) ∧ yWr S (x + 2365) ∧ yA S (x + 2367) 51 48 ∧ yA S (x + 2368) 51 48)
def yMt : List (Int × Int × Int × Int) := [(0, 1, 50, 1395), (2, 2, 50, 168), (3, 3, 50, 168), (4, 4, 50, 168), (5, 5, 50, 168), (6, 6, 51, 168), (7, 7, 50, 50), (8, 8, 50, 336), (9, 9, 51, 49), (10, 10, 50, 49), (11, 11, 50, 49), (12, 12, 50, 10), (13, 13, 50, 80), (14, 14, 50, 80), (15, 15, 50, 80), (16, 16, 51, 3), (18, 17, 50, 72), (19, 18, 50, 54), (20, 19, 50, 48), (21, 20, 51, 48), (22, 21, 51, 48), (23, 22, 50, 29295), (24, 23, 50, 3), (25, 24, 50, 3), (30, 25, 50, 1395), (31, 26, 50, 80), (32, 27, 50, 80), (33, 28, 50, 10), (34, 29, 50, 10), (35, 30, 50, 9), (36, 31, 50, 6), (37, 32, 50, 6), (38, 33, 50, 9), (39, 34, 50, 9), (40, 35, 50, 9), (41, 36, 50, 9), (42, 37, 50, 9), (43, 38, 50, 9), (44, 39, 51, 9), (52, 40, 50, 900), (53, 41, 50, 60), (54, 42, 50, 1395), (63, 43, 50, 8000), (65, 44, 50, 1395), (66, 45, 50, 80), (67, 46, 50, 80)]
def yM (S : mH) (m : Int) : Prop := S.2.1 m = 12 ∧ ∀ q ∈ yMt, S.1 m q.1 = m + q.2.1 ∧ yA S (m + q.2.1) q.2.2.1 q.2.2.2
section YM
variable {S : mH} {m : Int}
theorem ym_k (h : yM S m) : S.2.1 m = 12 := h.1
theorem ym_0 (h : yM S m) : S.1 m 0 = m + 1 := (h.2 (0, 1, 50, 1395) (List.mem_of_getElem? (i := 0) rfl)).1
theorem ym_k0 (h : yM S m) : S.2.1 (m + 1) = 50 := (h.2 (0, 1, 50, 1395) (List.mem_of_getElem? (i := 0) rfl)).2.1
theorem ym_l0 (h : yM S m) : S.2.2.1 (m + 1) = 1395 := (h.2 (0, 1, 50, 1395) (List.mem_of_getElem? (i := 0) rfl)).2.2
theorem ym_2 (h : yM S m) : S.1 m 2 = m + 2 := (h.2 (2, 2, 50, 168) (List.mem_of_getElem? (i := 1) rfl)).1
theorem ym_k2 (h : yM S m) : S.2.1 (m + 2) = 50 := (h.2 (2, 2, 50, 168) (List.mem_of_getElem? (i := 1) rfl)).2.1
theorem ym_l2 (h : yM S m) : S.2.2.1 (m + 2) = 168 := (h.2 (2, 2, 50, 168) (List.mem_of_getElem? (i := 1) rfl)).2.2
theorem ym_3 (h : yM S m) : S.1 m 3 = m + 3 := (h.2 (3, 3, 50, 168) (List.mem_of_getElem? (i := 2) rfl)).1
theorem ym_k3 (h : yM S m) : S.2.1 (m + 3) = 50 := (h.2 (3, 3, 50, 168) (List.mem_of_getElem? (i := 2) rfl)).2.1
theorem ym_l3 (h : yM S m) : S.2.2.1 (m + 3) = 168 := (h.2 (3, 3, 50, 168) (List.mem_of_getElem? (i := 2) rfl)).2.2
theorem ym_4 (h : yM S m) : S.1 m 4 = m + 4 := (h.2 (4, 4, 50, 168) (List.mem_of_getElem? (i := 3) rfl)).1
theorem ym_k4 (h : yM S m) : S.2.1 (m + 4) = 50 := (h.2 (4, 4, 50, 168) (List.mem_of_getElem? (i := 3) rfl)).2.1
theorem ym_l4 (h : yM S m) : S.2.2.1 (m + 4) = 168 := (h.2 (4, 4, 50, 168) (List.mem_of_getElem? (i := 3) rfl)).2.2
theorem ym_5 (h : yM S m) : S.1 m 5 = m + 5 := (h.2 (5, 5, 50, 168) (List.mem_of_getElem? (i := 4) rfl)).1
theorem ym_k5 (h : yM S m) : S.2.1 (m + 5) = 50 := (h.2 (5, 5, 50, 168) (List.mem_of_getElem? (i := 4) rfl)).2.1
theorem ym_l5 (h : yM S m) : S.2.2.1 (m + 5) = 168 := (h.2 (5, 5, 50, 168) (List.mem_of_getElem? (i := 4) rfl)).2.2
theorem ym_6 (h : yM S m) : S.1 m 6 = m + 6 := (h.2 (6, 6, 51, 168) (List.mem_of_getElem? (i := 5) rfl)).1
theorem ym_k6 (h : yM S m) : S.2.1 (m + 6) = 51 := (h.2 (6, 6, 51, 168) (List.mem_of_getElem? (i := 5) rfl)).2.1
theorem ym_l6 (h : yM S m) : S.2.2.1 (m + 6) = 168 := (h.2 (6, 6, 51, 168) (List.mem_of_getElem? (i := 5) rfl)).2.2
theorem ym_7 (h : yM S m) : S.1 m 7 = m + 7 := (h.2 (7, 7, 50, 50) (List.mem_of_getElem? (i := 6) rfl)).1
theorem ym_k7 (h : yM S m) : S.2.1 (m + 7) = 50 := (h.2 (7, 7, 50, 50) (List.mem_of_getElem? (i := 6) rfl)).2.1
theorem ym_l7 (h : yM S m) : S.2.2.1 (m + 7) = 50 := (h.2 (7, 7, 50, 50) (List.mem_of_getElem? (i := 6) rfl)).2.2
theorem ym_8 (h : yM S m) : S.1 m 8 = m + 8 := (h.2 (8, 8, 50, 336) (List.mem_of_getElem? (i := 7) rfl)).1
theorem ym_k8 (h : yM S m) : S.2.1 (m + 8) = 50 := (h.2 (8, 8, 50, 336) (List.mem_of_getElem? (i := 7) rfl)).2.1
theorem ym_l8 (h : yM S m) : S.2.2.1 (m + 8) = 336 := (h.2 (8, 8, 50, 336) (List.mem_of_getElem? (i := 7) rfl)).2.2
theorem ym_9 (h : yM S m) : S.1 m 9 = m + 9 := (h.2 (9, 9, 51, 49) (List.mem_of_getElem? (i := 8) rfl)).1
theorem ym_k9 (h : yM S m) : S.2.1 (m + 9) = 51 := (h.2 (9, 9, 51, 49) (List.mem_of_getElem? (i := 8) rfl)).2.1
theorem ym_l9 (h : yM S m) : S.2.2.1 (m + 9) = 49 := (h.2 (9, 9, 51, 49) (List.mem_of_getElem? (i := 8) rfl)).2.2
theorem ym_10 (h : yM S m) : S.1 m 10 = m + 10 := (h.2 (10, 10, 50, 49) (List.mem_of_getElem? (i := 9) rfl)).1
theorem ym_k10 (h : yM S m) : S.2.1 (m + 10) = 50 := (h.2 (10, 10, 50, 49) (List.mem_of_getElem? (i := 9) rfl)).2.1
theorem ym_l10 (h : yM S m) : S.2.2.1 (m + 10) = 49 := (h.2 (10, 10, 50, 49) (List.mem_of_getElem? (i := 9) rfl)).2.2
theorem ym_11 (h : yM S m) : S.1 m 11 = m + 11 := (h.2 (11, 11, 50, 49) (List.mem_of_getElem? (i := 10) rfl)).1
theorem ym_k11 (h : yM S m) : S.2.1 (m + 11) = 50 := (h.2 (11, 11, 50, 49) (List.mem_of_getElem? (i := 10) rfl)).2.1
theorem ym_l11 (h : yM S m) : S.2.2.1 (m + 11) = 49 := (h.2 (11, 11, 50, 49) (List.mem_of_getElem? (i := 10) rfl)).2.2
theorem ym_12 (h : yM S m) : S.1 m 12 = m + 12 := (h.2 (12, 12, 50, 10) (List.mem_of_getElem? (i := 11) rfl)).1
theorem ym_k12 (h : yM S m) : S.2.1 (m + 12) = 50 := (h.2 (12, 12, 50, 10) (List.mem_of_getElem? (i := 11) rfl)).2.1
theorem ym_l12 (h : yM S m) : S.2.2.1 (m + 12) = 10 := (h.2 (12, 12, 50, 10) (List.mem_of_getElem? (i := 11) rfl)).2.2
theorem ym_13 (h : yM S m) : S.1 m 13 = m + 13 := (h.2 (13, 13, 50, 80) (List.mem_of_getElem? (i := 12) rfl)).1
theorem ym_k13 (h : yM S m) : S.2.1 (m + 13) = 50 := (h.2 (13, 13, 50, 80) (List.mem_of_getElem? (i := 12) rfl)).2.1
theorem ym_l13 (h : yM S m) : S.2.2.1 (m + 13) = 80 := (h.2 (13, 13, 50, 80) (List.mem_of_getElem? (i := 12) rfl)).2.2
theorem ym_14 (h : yM S m) : S.1 m 14 = m + 14 := (h.2 (14, 14, 50, 80) (List.mem_of_getElem? (i := 13) rfl)).1
theorem ym_k14 (h : yM S m) : S.2.1 (m + 14) = 50 := (h.2 (14, 14, 50, 80) (List.mem_of_getElem? (i := 13) rfl)).2.1
theorem ym_l14 (h : yM S m) : S.2.2.1 (m + 14) = 80 := (h.2 (14, 14, 50, 80) (List.mem_of_getElem? (i := 13) rfl)).2.2
theorem ym_15 (h : yM S m) : S.1 m 15 = m + 15 := (h.2 (15, 15, 50, 80) (List.mem_of_getElem? (i := 14) rfl)).1
theorem ym_k15 (h : yM S m) : S.2.1 (m + 15) = 50 := (h.2 (15, 15, 50, 80) (List.mem_of_getElem? (i := 14) rfl)).2.1
theorem ym_l15 (h : yM S m) : S.2.2.1 (m + 15) = 80 := (h.2 (15, 15, 50, 80) (List.mem_of_getElem? (i := 14) rfl)).2.2
theorem ym_16 (h : yM S m) : S.1 m 16 = m + 16 := (h.2 (16, 16, 51, 3) (List.mem_of_getElem? (i := 15) rfl)).1
theorem ym_k16 (h : yM S m) : S.2.1 (m + 16) = 51 := (h.2 (16, 16, 51, 3) (List.mem_of_getElem? (i := 15) rfl)).2.1
theorem ym_l16 (h : yM S m) : S.2.2.1 (m + 16) = 3 := (h.2 (16, 16, 51, 3) (List.mem_of_getElem? (i := 15) rfl)).2.2
theorem ym_18 (h : yM S m) : S.1 m 18 = m + 17 := (h.2 (18, 17, 50, 72) (List.mem_of_getElem? (i := 16) rfl)).1
theorem ym_k18 (h : yM S m) : S.2.1 (m + 17) = 50 := (h.2 (18, 17, 50, 72) (List.mem_of_getElem? (i := 16) rfl)).2.1
theorem ym_l18 (h : yM S m) : S.2.2.1 (m + 17) = 72 := (h.2 (18, 17, 50, 72) (List.mem_of_getElem? (i := 16) rfl)).2.2
theorem ym_19 (h : yM S m) : S.1 m 19 = m + 18 := (h.2 (19, 18, 50, 54) (List.mem_of_getElem? (i := 17) rfl)).1
theorem ym_k19 (h : yM S m) : S.2.1 (m + 18) = 50 := (h.2 (19, 18, 50, 54) (List.mem_of_getElem? (i := 17) rfl)).2.1
theorem ym_l19 (h : yM S m) : S.2.2.1 (m + 18) = 54 := (h.2 (19, 18, 50, 54) (List.mem_of_getElem? (i := 17) rfl)).2.2
theorem ym_20 (h : yM S m) : S.1 m 20 = m + 19 := (h.2 (20, 19, 50, 48) (List.mem_of_getElem? (i := 18) rfl)).1
theorem ym_k20 (h : yM S m) : S.2.1 (m + 19) = 50 := (h.2 (20, 19, 50, 48) (List.mem_of_getElem? (i := 18) rfl)).2.1
theorem ym_l20 (h : yM S m) : S.2.2.1 (m + 19) = 48 := (h.2 (20, 19, 50, 48) (List.mem_of_getElem? (i := 18) rfl)).2.2
theorem ym_21 (h : yM S m) : S.1 m 21 = m + 20 := (h.2 (21, 20, 51, 48) (List.mem_of_getElem? (i := 19) rfl)).1
theorem ym_k21 (h : yM S m) : S.2.1 (m + 20) = 51 := (h.2 (21, 20, 51, 48) (List.mem_of_getElem? (i := 19) rfl)).2.1
theorem ym_l21 (h : yM S m) : S.2.2.1 (m + 20) = 48 := (h.2 (21, 20, 51, 48) (List.mem_of_getElem? (i := 19) rfl)).2.2
theorem ym_22 (h : yM S m) : S.1 m 22 = m + 21 := (h.2 (22, 21, 51, 48) (List.mem_of_getElem? (i := 20) rfl)).1
theorem ym_k22 (h : yM S m) : S.2.1 (m + 21) = 51 := (h.2 (22, 21, 51, 48) (List.mem_of_getElem? (i := 20) rfl)).2.1
theorem ym_l22 (h : yM S m) : S.2.2.1 (m + 21) = 48 := (h.2 (22, 21, 51, 48) (List.mem_of_getElem? (i := 20) rfl)).2.2
theorem ym_23 (h : yM S m) : S.1 m 23 = m + 22 := (h.2 (23, 22, 50, 29295) (List.mem_of_getElem? (i := 21) rfl)).1
theorem ym_k23 (h : yM S m) : S.2.1 (m + 22) = 50 := (h.2 (23, 22, 50, 29295) (List.mem_of_getElem? (i := 21) rfl)).2.1
theorem ym_l23 (h : yM S m) : S.2.2.1 (m + 22) = 29295 := (h.2 (23, 22, 50, 29295) (List.mem_of_getElem? (i := 21) rfl)).2.2
theorem ym_24 (h : yM S m) : S.1 m 24 = m + 23 := (h.2 (24, 23, 50, 3) (List.mem_of_getElem? (i := 22) rfl)).1
theorem ym_k24 (h : yM S m) : S.2.1 (m + 23) = 50 := (h.2 (24, 23, 50, 3) (List.mem_of_getElem? (i := 22) rfl)).2.1
theorem ym_l24 (h : yM S m) : S.2.2.1 (m + 23) = 3 := (h.2 (24, 23, 50, 3) (List.mem_of_getElem? (i := 22) rfl)).2.2
theorem ym_25 (h : yM S m) : S.1 m 25 = m + 24 := (h.2 (25, 24, 50, 3) (List.mem_of_getElem? (i := 23) rfl)).1
theorem ym_k25 (h : yM S m) : S.2.1 (m + 24) = 50 := (h.2 (25, 24, 50, 3) (List.mem_of_getElem? (i := 23) rfl)).2.1
theorem ym_l25 (h : yM S m) : S.2.2.1 (m + 24) = 3 := (h.2 (25, 24, 50, 3) (List.mem_of_getElem? (i := 23) rfl)).2.2
theorem ym_30 (h : yM S m) : S.1 m 30 = m + 25 := (h.2 (30, 25, 50, 1395) (List.mem_of_getElem? (i := 24) rfl)).1
theorem ym_k30 (h : yM S m) : S.2.1 (m + 25) = 50 := (h.2 (30, 25, 50, 1395) (List.mem_of_getElem? (i := 24) rfl)).2.1
theorem ym_l30 (h : yM S m) : S.2.2.1 (m + 25) = 1395 := (h.2 (30, 25, 50, 1395) (List.mem_of_getElem? (i := 24) rfl)).2.2
theorem ym_31 (h : yM S m) : S.1 m 31 = m + 26 := (h.2 (31, 26, 50, 80) (List.mem_of_getElem? (i := 25) rfl)).1
theorem ym_k31 (h : yM S m) : S.2.1 (m + 26) = 50 := (h.2 (31, 26, 50, 80) (List.mem_of_getElem? (i := 25) rfl)).2.1
theorem ym_l31 (h : yM S m) : S.2.2.1 (m + 26) = 80 := (h.2 (31, 26, 50, 80) (List.mem_of_getElem? (i := 25) rfl)).2.2
theorem ym_32 (h : yM S m) : S.1 m 32 = m + 27 := (h.2 (32, 27, 50, 80) (List.mem_of_getElem? (i := 26) rfl)).1
theorem ym_k32 (h : yM S m) : S.2.1 (m + 27) = 50 := (h.2 (32, 27, 50, 80) (List.mem_of_getElem? (i := 26) rfl)).2.1
theorem ym_l32 (h : yM S m) : S.2.2.1 (m + 27) = 80 := (h.2 (32, 27, 50, 80) (List.mem_of_getElem? (i := 26) rfl)).2.2
theorem ym_33 (h : yM S m) : S.1 m 33 = m + 28 := (h.2 (33, 28, 50, 10) (List.mem_of_getElem? (i := 27) rfl)).1
theorem ym_k33 (h : yM S m) : S.2.1 (m + 28) = 50 := (h.2 (33, 28, 50, 10) (List.mem_of_getElem? (i := 27) rfl)).2.1
theorem ym_l33 (h : yM S m) : S.2.2.1 (m + 28) = 10 := (h.2 (33, 28, 50, 10) (List.mem_of_getElem? (i := 27) rfl)).2.2
theorem ym_34 (h : yM S m) : S.1 m 34 = m + 29 := (h.2 (34, 29, 50, 10) (List.mem_of_getElem? (i := 28) rfl)).1
theorem ym_k34 (h : yM S m) : S.2.1 (m + 29) = 50 := (h.2 (34, 29, 50, 10) (List.mem_of_getElem? (i := 28) rfl)).2.1
theorem ym_l34 (h : yM S m) : S.2.2.1 (m + 29) = 10 := (h.2 (34, 29, 50, 10) (List.mem_of_getElem? (i := 28) rfl)).2.2
theorem ym_35 (h : yM S m) : S.1 m 35 = m + 30 := (h.2 (35, 30, 50, 9) (List.mem_of_getElem? (i := 29) rfl)).1
theorem ym_k35 (h : yM S m) : S.2.1 (m + 30) = 50 := (h.2 (35, 30, 50, 9) (List.mem_of_getElem? (i := 29) rfl)).2.1
theorem ym_l35 (h : yM S m) : S.2.2.1 (m + 30) = 9 := (h.2 (35, 30, 50, 9) (List.mem_of_getElem? (i := 29) rfl)).2.2
theorem ym_36 (h : yM S m) : S.1 m 36 = m + 31 := (h.2 (36, 31, 50, 6) (List.mem_of_getElem? (i := 30) rfl)).1
theorem ym_k36 (h : yM S m) : S.2.1 (m + 31) = 50 := (h.2 (36, 31, 50, 6) (List.mem_of_getElem? (i := 30) rfl)).2.1
theorem ym_l36 (h : yM S m) : S.2.2.1 (m + 31) = 6 := (h.2 (36, 31, 50, 6) (List.mem_of_getElem? (i := 30) rfl)).2.2
theorem ym_37 (h : yM S m) : S.1 m 37 = m + 32 := (h.2 (37, 32, 50, 6) (List.mem_of_getElem? (i := 31) rfl)).1
theorem ym_k37 (h : yM S m) : S.2.1 (m + 32) = 50 := (h.2 (37, 32, 50, 6) (List.mem_of_getElem? (i := 31) rfl)).2.1
theorem ym_l37 (h : yM S m) : S.2.2.1 (m + 32) = 6 := (h.2 (37, 32, 50, 6) (List.mem_of_getElem? (i := 31) rfl)).2.2
theorem ym_38 (h : yM S m) : S.1 m 38 = m + 33 := (h.2 (38, 33, 50, 9) (List.mem_of_getElem? (i := 32) rfl)).1
theorem ym_k38 (h : yM S m) : S.2.1 (m + 33) = 50 := (h.2 (38, 33, 50, 9) (List.mem_of_getElem? (i := 32) rfl)).2.1
theorem ym_l38 (h : yM S m) : S.2.2.1 (m + 33) = 9 := (h.2 (38, 33, 50, 9) (List.mem_of_getElem? (i := 32) rfl)).2.2
theorem ym_39 (h : yM S m) : S.1 m 39 = m + 34 := (h.2 (39, 34, 50, 9) (List.mem_of_getElem? (i := 33) rfl)).1
theorem ym_k39 (h : yM S m) : S.2.1 (m + 34) = 50 := (h.2 (39, 34, 50, 9) (List.mem_of_getElem? (i := 33) rfl)).2.1
theorem ym_l39 (h : yM S m) : S.2.2.1 (m + 34) = 9 := (h.2 (39, 34, 50, 9) (List.mem_of_getElem? (i := 33) rfl)).2.2
theorem ym_40 (h : yM S m) : S.1 m 40 = m + 35 := (h.2 (40, 35, 50, 9) (List.mem_of_getElem? (i := 34) rfl)).1
theorem ym_k40 (h : yM S m) : S.2.1 (m + 35) = 50 := (h.2 (40, 35, 50, 9) (List.mem_of_getElem? (i := 34) rfl)).2.1
theorem ym_l40 (h : yM S m) : S.2.2.1 (m + 35) = 9 := (h.2 (40, 35, 50, 9) (List.mem_of_getElem? (i := 34) rfl)).2.2
theorem ym_41 (h : yM S m) : S.1 m 41 = m + 36 := (h.2 (41, 36, 50, 9) (List.mem_of_getElem? (i := 35) rfl)).1
theorem ym_k41 (h : yM S m) : S.2.1 (m + 36) = 50 := (h.2 (41, 36, 50, 9) (List.mem_of_getElem? (i := 35) rfl)).2.1
theorem ym_l41 (h : yM S m) : S.2.2.1 (m + 36) = 9 := (h.2 (41, 36, 50, 9) (List.mem_of_getElem? (i := 35) rfl)).2.2
theorem ym_42 (h : yM S m) : S.1 m 42 = m + 37 := (h.2 (42, 37, 50, 9) (List.mem_of_getElem? (i := 36) rfl)).1
theorem ym_k42 (h : yM S m) : S.2.1 (m + 37) = 50 := (h.2 (42, 37, 50, 9) (List.mem_of_getElem? (i := 36) rfl)).2.1
theorem ym_l42 (h : yM S m) : S.2.2.1 (m + 37) = 9 := (h.2 (42, 37, 50, 9) (List.mem_of_getElem? (i := 36) rfl)).2.2
theorem ym_43 (h : yM S m) : S.1 m 43 = m + 38 := (h.2 (43, 38, 50, 9) (List.mem_of_getElem? (i := 37) rfl)).1
theorem ym_k43 (h : yM S m) : S.2.1 (m + 38) = 50 := (h.2 (43, 38, 50, 9) (List.mem_of_getElem? (i := 37) rfl)).2.1
theorem ym_l43 (h : yM S m) : S.2.2.1 (m + 38) = 9 := (h.2 (43, 38, 50, 9) (List.mem_of_getElem? (i := 37) rfl)).2.2
theorem ym_44 (h : yM S m) : S.1 m 44 = m + 39 := (h.2 (44, 39, 51, 9) (List.mem_of_getElem? (i := 38) rfl)).1
theorem ym_k44 (h : yM S m) : S.2.1 (m + 39) = 51 := (h.2 (44, 39, 51, 9) (List.mem_of_getElem? (i := 38) rfl)).2.1
theorem ym_l44 (h : yM S m) : S.2.2.1 (m + 39) = 9 := (h.2 (44, 39, 51, 9) (List.mem_of_getElem? (i := 38) rfl)).2.2
theorem ym_52 (h : yM S m) : S.1 m 52 = m + 40 := (h.2 (52, 40, 50, 900) (List.mem_of_getElem? (i := 39) rfl)).1
theorem ym_k52 (h : yM S m) : S.2.1 (m + 40) = 50 := (h.2 (52, 40, 50, 900) (List.mem_of_getElem? (i := 39) rfl)).2.1
theorem ym_l52 (h : yM S m) : S.2.2.1 (m + 40) = 900 := (h.2 (52, 40, 50, 900) (List.mem_of_getElem? (i := 39) rfl)).2.2
theorem ym_53 (h : yM S m) : S.1 m 53 = m + 41 := (h.2 (53, 41, 50, 60) (List.mem_of_getElem? (i := 40) rfl)).1
theorem ym_k53 (h : yM S m) : S.2.1 (m + 41) = 50 := (h.2 (53, 41, 50, 60) (List.mem_of_getElem? (i := 40) rfl)).2.1
theorem ym_l53 (h : yM S m) : S.2.2.1 (m + 41) = 60 := (h.2 (53, 41, 50, 60) (List.mem_of_getElem? (i := 40) rfl)).2.2
theorem ym_54 (h : yM S m) : S.1 m 54 = m + 42 := (h.2 (54, 42, 50, 1395) (List.mem_of_getElem? (i := 41) rfl)).1
theorem ym_k54 (h : yM S m) : S.2.1 (m + 42) = 50 := (h.2 (54, 42, 50, 1395) (List.mem_of_getElem? (i := 41) rfl)).2.1
theorem ym_l54 (h : yM S m) : S.2.2.1 (m + 42) = 1395 := (h.2 (54, 42, 50, 1395) (List.mem_of_getElem? (i := 41) rfl)).2.2
theorem ym_63 (h : yM S m) : S.1 m 63 = m + 43 := (h.2 (63, 43, 50, 8000) (List.mem_of_getElem? (i := 42) rfl)).1
theorem ym_k63 (h : yM S m) : S.2.1 (m + 43) = 50 := (h.2 (63, 43, 50, 8000) (List.mem_of_getElem? (i := 42) rfl)).2.1
theorem ym_l63 (h : yM S m) : S.2.2.1 (m + 43) = 8000 := (h.2 (63, 43, 50, 8000) (List.mem_of_getElem? (i := 42) rfl)).2.2
theorem ym_65 (h : yM S m) : S.1 m 65 = m + 44 := (h.2 (65, 44, 50, 1395) (List.mem_of_getElem? (i := 43) rfl)).1
theorem ym_k65 (h : yM S m) : S.2.1 (m + 44) = 50 := (h.2 (65, 44, 50, 1395) (List.mem_of_getElem? (i := 43) rfl)).2.1
theorem ym_l65 (h : yM S m) : S.2.2.1 (m + 44) = 1395 := (h.2 (65, 44, 50, 1395) (List.mem_of_getElem? (i := 43) rfl)).2.2
theorem ym_66 (h : yM S m) : S.1 m 66 = m + 45 := (h.2 (66, 45, 50, 80) (List.mem_of_getElem? (i := 44) rfl)).1
theorem ym_k66 (h : yM S m) : S.2.1 (m + 45) = 50 := (h.2 (66, 45, 50, 80) (List.mem_of_getElem? (i := 44) rfl)).2.1
theorem ym_l66 (h : yM S m) : S.2.2.1 (m + 45) = 80 := (h.2 (66, 45, 50, 80) (List.mem_of_getElem? (i := 44) rfl)).2.2
theorem ym_67 (h : yM S m) : S.1 m 67 = m + 46 := (h.2 (67, 46, 50, 80) (List.mem_of_getElem? (i := 45) rfl)).1
theorem ym_k67 (h : yM S m) : S.2.1 (m + 46) = 50 := (h.2 (67, 46, 50, 80) (List.mem_of_getElem? (i := 45) rfl)).2.1
theorem ym_l67 (h : yM S m) : S.2.2.1 (m + 46) = 80 := (h.2 (67, 46, 50, 80) (List.mem_of_getElem? (i := 45) rfl)).2.2
end YM
section YX
variable {S : mH} {x : Int} {π : Int → Int → Int}
theorem yx_k (h : yX S x π) : S.2.1 x = 11 := h.1
theorem yx_0 (h : yX S x π) : S.1 x 0 = x + 1 := h.2.1.1
theorem yx_4 (h : yX S x π) : S.1 x 4 = x + 2234 := h.2.1.2.1
theorem yx_5 (h : yX S x π) : S.1 x 5 = x + 2341 := h.2.1.2.2.1
theorem yx_6 (h : yX S x π) : S.1 x 6 = x + 2340 := h.2.1.2.2.2.1
theorem yx_7 (h : yX S x π) : S.1 x 7 = x + 2359 := h.2.1.2.2.2.2.1
theorem yx_8 (h : yX S x π) : S.1 x 8 = x + 2365 := h.2.1.2.2.2.2.2.1
theorem yx_9 (h : yX S x π) : S.1 x 9 = x + 2367 := h.2.1.2.2.2.2.2.2.1
theorem yx_10 (h : yX S x π) : S.1 x 10 = x + 2368 := h.2.1.2.2.2.2.2.2.2
theorem yx_k1 (h : yX S x π) : S.2.1 (x + 1) = 61 := h.2.2.1.1
theorem yx_l1 (h : yX S x π) : S.2.2.1 (x + 1) = 3 := h.2.2.1.2
theorem yx_b (h : yX S x π) {k : Int} (h0 : 0 ≤ k) (h1 : k < 3) : S.1 (x + 1) k = x + (2 + 744 * k) := (h.2.2.2.1 k h0 h1).1.1
theorem yx_bk (h : yX S x π) {k : Int} (h0 : 0 ≤ k) (h1 : k < 3) : S.2.1 (x + (2 + 744 * k)) = 2 := (h.2.2.2.1 k h0 h1).1.2.1
theorem yx_bs (h : yX S x π) {k : Int} (h0 : 0 ≤ k) (h1 : k < 3) : S.1 (x + (2 + 744 * k)) 0 = x + (2 + 744 * k) + 1 := (h.2.2.2.1 k h0 h1).1.2.2.1
theorem yx_sk (h : yX S x π) {k : Int} (h0 : 0 ≤ k) (h1 : k < 3) : S.2.1 (x + (2 + 744 * k) + 1) = 60 := (h.2.2.2.1 k h0 h1).1.2.2.2.1
theorem yx_sl (h : yX S x π) {k : Int} (h0 : 0 ≤ k) (h1 : k < 3) : S.2.2.1 (x + (2 + 744 * k) + 1) = 7 := (h.2.2.2.1 k h0 h1).1.2.2.2.2
theorem yx_s (h : yX S x π) {k : Int} (h0 : 0 ≤ k) (h1 : k < 3) {j : Int} (g0 : 0 ≤ j) (g1 : j < 7) : S.1 (x + (2 + 744 * k) + 1) j = x + (4 + 744 * k) + 106 * π k j := ((h.2.2.2.1 k h0 h1).2 j g0 g1).1.1
theorem yx_B (h : yX S x π) {k : Int} (h0 : 0 ≤ k) (h1 : k < 3) {j : Int} (g0 : 0 ≤ j) (g1 : j < 7) : yB S (x + (4 + 744 * k) + 106 * j) := ((h.2.2.2.1 k h0 h1).2 j g0 g1).1.2.2.2
theorem yx_pi (h : yX S x π) {k : Int} (h0 : 0 ≤ k) (h1 : k < 3) {j : Int} (g0 : 0 ≤ j) (g1 : j < 7) : 0 ≤ π k j ∧ π k j < 7 := ⟨((h.2.2.2.1 k h0 h1).2 j g0 g1).1.2.1, ((h.2.2.2.1 k h0 h1).2 j g0 g1).1.2.2.1⟩
theorem yx_inj (h : yX S x π) {k : Int} (h0 : 0 ≤ k) (h1 : k < 3) {j : Int} (g0 : 0 ≤ j) (g1 : j < 7) {j' : Int} (g2 : 0 ≤ j') (g3 : j' < 7) (e : π k j = π k j') : j = j' := ((h.2.2.2.1 k h0 h1).2 j g0 g1).2 j' g2 g3 e
theorem yx_T (h : yX S x π) : yB S (x + 2234) := h.2.2.2.2.1
theorem yx_e (h : yX S x π) : S.2.1 (x + 2340) = 3 := h.2.2.2.2.2.1
theorem yx_n (h : yX S x π) : yNe S (x + 2341) (x + 2340) := h.2.2.2.2.2.2.1
theorem yx_r (h : yX S x π) : yRd S (x + 2359) := h.2.2.2.2.2.2.2.1
theorem yx_w (h : yX S x π) : yWr S (x + 2365) := h.2.2.2.2.2.2.2.2.1
theorem yx_k9 (h : yX S x π) : S.2.1 (x + 2367) = 51 := h.2.2.2.2.2.2.2.2.2.1.1
theorem yx_l9 (h : yX S x π) : S.2.2.1 (x + 2367) = 48 := h.2.2.2.2.2.2.2.2.2.1.2
theorem yx_k10 (h : yX S x π) : S.2.1 (x + 2368) = 51 := h.2.2.2.2.2.2.2.2.2.2.1
theorem yx_l10 (h : yX S x π) : S.2.2.1 (x + 2368) = 48 := h.2.2.2.2.2.2.2.2.2.2.2
end YX
section YN
variable {S : mH} {n e : Int}
theorem yn_k (h : yNe S n e) : S.2.1 n = 4 := h.1
theorem yn_0 (h : yNe S n e) : S.1 n 0 = e := h.2.1
theorem yn_e (h : yNe S n e) : S.2.1 e = 3 := h.2.2.1
theorem yn_2 (h : yNe S n e) : S.1 n 2 = n + 1 := (h.2.2.2 (2, 1, 50, 15) (List.mem_of_getElem? (i := 0) rfl)).1
theorem yn_k2 (h : yNe S n e) : S.2.1 (n + 1) = 50 := (h.2.2.2 (2, 1, 50, 15) (List.mem_of_getElem? (i := 0) rfl)).2.1
theorem yn_l2 (h : yNe S n e) : S.2.2.1 (n + 1) = 15 := (h.2.2.2 (2, 1, 50, 15) (List.mem_of_getElem? (i := 0) rfl)).2.2
theorem yn_3 (h : yNe S n e) : S.1 n 3 = n + 2 := (h.2.2.2 (3, 2, 50, 15) (List.mem_of_getElem? (i := 1) rfl)).1
theorem yn_k3 (h : yNe S n e) : S.2.1 (n + 2) = 50 := (h.2.2.2 (3, 2, 50, 15) (List.mem_of_getElem? (i := 1) rfl)).2.1
theorem yn_l3 (h : yNe S n e) : S.2.2.1 (n + 2) = 15 := (h.2.2.2 (3, 2, 50, 15) (List.mem_of_getElem? (i := 1) rfl)).2.2
theorem yn_4 (h : yNe S n e) : S.1 n 4 = n + 3 := (h.2.2.2 (4, 3, 50, 15) (List.mem_of_getElem? (i := 2) rfl)).1
theorem yn_k4 (h : yNe S n e) : S.2.1 (n + 3) = 50 := (h.2.2.2 (4, 3, 50, 15) (List.mem_of_getElem? (i := 2) rfl)).2.1
theorem yn_l4 (h : yNe S n e) : S.2.2.1 (n + 3) = 15 := (h.2.2.2 (4, 3, 50, 15) (List.mem_of_getElem? (i := 2) rfl)).2.2
theorem yn_5 (h : yNe S n e) : S.1 n 5 = n + 4 := (h.2.2.2 (5, 4, 50, 120) (List.mem_of_getElem? (i := 3) rfl)).1
theorem yn_k5 (h : yNe S n e) : S.2.1 (n + 4) = 50 := (h.2.2.2 (5, 4, 50, 120) (List.mem_of_getElem? (i := 3) rfl)).2.1
theorem yn_l5 (h : yNe S n e) : S.2.2.1 (n + 4) = 120 := (h.2.2.2 (5, 4, 50, 120) (List.mem_of_getElem? (i := 3) rfl)).2.2
theorem yn_6 (h : yNe S n e) : S.1 n 6 = n + 5 := (h.2.2.2 (6, 5, 50, 120) (List.mem_of_getElem? (i := 4) rfl)).1
theorem yn_k6 (h : yNe S n e) : S.2.1 (n + 5) = 50 := (h.2.2.2 (6, 5, 50, 120) (List.mem_of_getElem? (i := 4) rfl)).2.1
theorem yn_l6 (h : yNe S n e) : S.2.2.1 (n + 5) = 120 := (h.2.2.2 (6, 5, 50, 120) (List.mem_of_getElem? (i := 4) rfl)).2.2
theorem yn_7 (h : yNe S n e) : S.1 n 7 = n + 6 := (h.2.2.2 (7, 6, 51, 120) (List.mem_of_getElem? (i := 5) rfl)).1
theorem yn_k7 (h : yNe S n e) : S.2.1 (n + 6) = 51 := (h.2.2.2 (7, 6, 51, 120) (List.mem_of_getElem? (i := 5) rfl)).2.1
theorem yn_l7 (h : yNe S n e) : S.2.2.1 (n + 6) = 120 := (h.2.2.2 (7, 6, 51, 120) (List.mem_of_getElem? (i := 5) rfl)).2.2
theorem yn_8 (h : yNe S n e) : S.1 n 8 = n + 7 := (h.2.2.2 (8, 7, 50, 48) (List.mem_of_getElem? (i := 6) rfl)).1
theorem yn_k8 (h : yNe S n e) : S.2.1 (n + 7) = 50 := (h.2.2.2 (8, 7, 50, 48) (List.mem_of_getElem? (i := 6) rfl)).2.1
theorem yn_l8 (h : yNe S n e) : S.2.2.1 (n + 7) = 48 := (h.2.2.2 (8, 7, 50, 48) (List.mem_of_getElem? (i := 6) rfl)).2.2
theorem yn_9 (h : yNe S n e) : S.1 n 9 = n + 8 := (h.2.2.2 (9, 8, 50, 48) (List.mem_of_getElem? (i := 7) rfl)).1
theorem yn_k9 (h : yNe S n e) : S.2.1 (n + 8) = 50 := (h.2.2.2 (9, 8, 50, 48) (List.mem_of_getElem? (i := 7) rfl)).2.1
theorem yn_l9 (h : yNe S n e) : S.2.2.1 (n + 8) = 48 := (h.2.2.2 (9, 8, 50, 48) (List.mem_of_getElem? (i := 7) rfl)).2.2
theorem yn_10 (h : yNe S n e) : S.1 n 10 = n + 9 := (h.2.2.2 (10, 9, 51, 48) (List.mem_of_getElem? (i := 8) rfl)).1
theorem yn_k10 (h : yNe S n e) : S.2.1 (n + 9) = 51 := (h.2.2.2 (10, 9, 51, 48) (List.mem_of_getElem? (i := 8) rfl)).2.1
theorem yn_l10 (h : yNe S n e) : S.2.2.1 (n + 9) = 48 := (h.2.2.2 (10, 9, 51, 48) (List.mem_of_getElem? (i := 8) rfl)).2.2
theorem yn_11 (h : yNe S n e) : S.1 n 11 = n + 10 := (h.2.2.2 (11, 10, 51, 48) (List.mem_of_getElem? (i := 9) rfl)).1
theorem yn_k11 (h : yNe S n e) : S.2.1 (n + 10) = 51 := (h.2.2.2 (11, 10, 51, 48) (List.mem_of_getElem? (i := 9) rfl)).2.1
theorem yn_l11 (h : yNe S n e) : S.2.2.1 (n + 10) = 48 := (h.2.2.2 (11, 10, 51, 48) (List.mem_of_getElem? (i := 9) rfl)).2.2
theorem yn_12 (h : yNe S n e) : S.1 n 12 = n + 11 := (h.2.2.2 (12, 11, 50, 48) (List.mem_of_getElem? (i := 10) rfl)).1
theorem yn_k12 (h : yNe S n e) : S.2.1 (n + 11) = 50 := (h.2.2.2 (12, 11, 50, 48) (List.mem_of_getElem? (i := 10) rfl)).2.1
theorem yn_l12 (h : yNe S n e) : S.2.2.1 (n + 11) = 48 := (h.2.2.2 (12, 11, 50, 48) (List.mem_of_getElem? (i := 10) rfl)).2.2
theorem yn_14 (h : yNe S n e) : S.1 n 14 = n + 12 := (h.2.2.2 (14, 12, 50, 48) (List.mem_of_getElem? (i := 11) rfl)).1
theorem yn_k14 (h : yNe S n e) : S.2.1 (n + 12) = 50 := (h.2.2.2 (14, 12, 50, 48) (List.mem_of_getElem? (i := 11) rfl)).2.1
theorem yn_l14 (h : yNe S n e) : S.2.2.1 (n + 12) = 48 := (h.2.2.2 (14, 12, 50, 48) (List.mem_of_getElem? (i := 11) rfl)).2.2
theorem yn_15 (h : yNe S n e) : S.1 n 15 = n + 13 := (h.2.2.2 (15, 13, 50, 48) (List.mem_of_getElem? (i := 12) rfl)).1
theorem yn_k15 (h : yNe S n e) : S.2.1 (n + 13) = 50 := (h.2.2.2 (15, 13, 50, 48) (List.mem_of_getElem? (i := 12) rfl)).2.1
theorem yn_l15 (h : yNe S n e) : S.2.2.1 (n + 13) = 48 := (h.2.2.2 (15, 13, 50, 48) (List.mem_of_getElem? (i := 12) rfl)).2.2
theorem yn_16 (h : yNe S n e) : S.1 n 16 = n + 14 := (h.2.2.2 (16, 14, 50, 10) (List.mem_of_getElem? (i := 13) rfl)).1
theorem yn_k16 (h : yNe S n e) : S.2.1 (n + 14) = 50 := (h.2.2.2 (16, 14, 50, 10) (List.mem_of_getElem? (i := 13) rfl)).2.1
theorem yn_l16 (h : yNe S n e) : S.2.2.1 (n + 14) = 10 := (h.2.2.2 (16, 14, 50, 10) (List.mem_of_getElem? (i := 13) rfl)).2.2
end YN
section YG
variable {S : mH} {s : Int}
theorem yg_k (h : yGn S s) : S.2.1 s = 9 := h.1
theorem yg_0 (h : yGn S s) : S.1 s 0 = s + 1 := h.2.1.1
theorem yg_1 (h : yGn S s) : S.1 s 1 = s + 2 := h.2.1.2
theorem yg_k0 (h : yGn S s) : S.2.1 (s + 1) = 52 := h.2.2.1.1
theorem yg_l0 (h : yGn S s) : S.2.2.1 (s + 1) = 100 := h.2.2.1.2
theorem yg_k1 (h : yGn S s) : S.2.1 (s + 2) = 50 := h.2.2.2.1
theorem yg_l1 (h : yGn S s) : S.2.2.1 (s + 2) = 31 := h.2.2.2.2
end YG
section YR
variable {S : mH} {r : Int}
theorem yr_k (h : yRd S r) : S.2.1 r = 7 := h.1
theorem yr_0 (h : yRd S r) : S.1 r 0 = r + 1 := (h.2.1 (0, 1, 52, 900) (List.mem_of_getElem? (i := 0) rfl)).1
theorem yr_k0 (h : yRd S r) : S.2.1 (r + 1) = 52 := (h.2.1 (0, 1, 52, 900) (List.mem_of_getElem? (i := 0) rfl)).2.1
theorem yr_l0 (h : yRd S r) : S.2.2.1 (r + 1) = 900 := (h.2.1 (0, 1, 52, 900) (List.mem_of_getElem? (i := 0) rfl)).2.2
theorem yr_3 (h : yRd S r) : S.1 r 3 = r + 2 := (h.2.1 (3, 2, 50, 901) (List.mem_of_getElem? (i := 1) rfl)).1
theorem yr_k3 (h : yRd S r) : S.2.1 (r + 2) = 50 := (h.2.1 (3, 2, 50, 901) (List.mem_of_getElem? (i := 1) rfl)).2.1
theorem yr_l3 (h : yRd S r) : S.2.2.1 (r + 2) = 901 := (h.2.1 (3, 2, 50, 901) (List.mem_of_getElem? (i := 1) rfl)).2.2
theorem yr_4 (h : yRd S r) : S.1 r 4 = r + 3 := (h.2.1 (4, 3, 50, 901) (List.mem_of_getElem? (i := 2) rfl)).1
theorem yr_k4 (h : yRd S r) : S.2.1 (r + 3) = 50 := (h.2.1 (4, 3, 50, 901) (List.mem_of_getElem? (i := 2) rfl)).2.1
theorem yr_l4 (h : yRd S r) : S.2.2.1 (r + 3) = 901 := (h.2.1 (4, 3, 50, 901) (List.mem_of_getElem? (i := 2) rfl)).2.2
theorem yr_5 (h : yRd S r) : S.1 r 5 = r + 4 := (h.2.1 (5, 4, 50, 901) (List.mem_of_getElem? (i := 3) rfl)).1
theorem yr_k5 (h : yRd S r) : S.2.1 (r + 4) = 50 := (h.2.1 (5, 4, 50, 901) (List.mem_of_getElem? (i := 3) rfl)).2.1
theorem yr_l5 (h : yRd S r) : S.2.2.1 (r + 4) = 901 := (h.2.1 (5, 4, 50, 901) (List.mem_of_getElem? (i := 3) rfl)).2.2
theorem yr_9 (h : yRd S r) : S.1 r 9 = r + 5 := (h.2.1 (9, 5, 50, 60) (List.mem_of_getElem? (i := 4) rfl)).1
theorem yr_k9 (h : yRd S r) : S.2.1 (r + 5) = 50 := (h.2.1 (9, 5, 50, 60) (List.mem_of_getElem? (i := 4) rfl)).2.1
theorem yr_l9 (h : yRd S r) : S.2.2.1 (r + 5) = 60 := (h.2.1 (9, 5, 50, 60) (List.mem_of_getElem? (i := 4) rfl)).2.2
theorem yr_11 (h : yRd S r) : S.1 r 11 = r - 3 := h.2.2.1
theorem yr_G (h : yRd S r) : yGn S (r - 3) := h.2.2.2
end YR
section YW
variable {S : mH} {w : Int}
theorem yw_k (h : yWr S w) : S.2.1 w = 10 := h.1
theorem yw_0 (h : yWr S w) : S.1 w 0 = w + 1 := h.2.1
theorem yw_k0 (h : yWr S w) : S.2.1 (w + 1) = 52 := h.2.2.1.1
theorem yw_l0 (h : yWr S w) : S.2.2.1 (w + 1) = 6400 := h.2.2.1.2
theorem yw_2 (h : yWr S w) : S.1 w 2 = w - 9 := h.2.2.2.1
theorem yw_G (h : yWr S w) : yGn S (w - 9) := h.2.2.2.2
end YW
