/-! # stage 2: what the two sides share -/
def LW (W H nk b : Nat) (sc sm : ST) : Prop :=
  (sc.1 b 0 = nI W) ∧
  (sm.1 0 6 + 5 = nI W) ∧
  (sc.1 b 1 = nI H) ∧
  (sm.1 0 7 + 4 = nI H) ∧
  (2 ≤ W) ∧
  (W ≤ 7) ∧
  (2 ≤ H) ∧
  (H ≤ 7) ∧
  (nk ≤ 8) ∧
  (sc.1 b 2 = sm.1 1 0) ∧
  (∃ d, d < 4 ∧ sc.1 b 3 = nI d ∧ sm.1 1 3 = nI ((d + 3) % 4)) ∧
  (∃ n, n ≤ 1000 ∧ sc.1 b 4 = nI n ∧ sm.1 0 8 = nI n) ∧
  (sc.1 b 5 = sm.1 1 4) ∧
  (sc.1 b 6 = sm.1 1 1) ∧
  (∀ k, k < 64 → cl W H k → ∃ n, n ≤ 9 ∧ sc.1 (b + 1) k = nI n ∧ sm.1 1 (5 + k) + 3 = nI n) ∧
  (∀ k, k < 64 → sm.1 4 k = if bq (sc.2 b 7) k = true then 1 else 0) ∧
  (∀ k, k < 64 → bq (sc.2 b 7) k = true → cl W H k) ∧
  (∀ k, k < 64 → bq (sc.2 b 9) k = true → cl W H k ∧ ∃ n g, n < nk ∧ 1 ≤ g ∧ g ≤ 9 ∧ sc.1 (b + 4) k = nI n ∧ sm.1 1 (197 + k) = nI (n + 1) ∧ sc.1 (b + 5) k = nI g ∧ sm.1 1 (261 + k) = nI g ∧ sc.1 (b + 6) k = sm.1 1 (325 + k)) ∧
  (∀ k, k < 64 → bq (sc.2 b 9) k = false → sm.1 1 (197 + k) = 0)
theorem LW.w {W H nk b : Nat} {sc sm : ST} (h : LW W H nk b sc sm) : sc.1 b 0 = nI W := h.1
theorem LW.w' {W H nk b : Nat} {sc sm : ST} (h : LW W H nk b sc sm) : sm.1 0 6 + 5 = nI W := h.2.1
theorem LW.h {W H nk b : Nat} {sc sm : ST} (h : LW W H nk b sc sm) : sc.1 b 1 = nI H := h.2.2.1
theorem LW.h' {W H nk b : Nat} {sc sm : ST} (h : LW W H nk b sc sm) : sm.1 0 7 + 4 = nI H := h.2.2.2.1
theorem LW.W2 {W H nk b : Nat} {sc sm : ST} (h : LW W H nk b sc sm) : 2 ≤ W := h.2.2.2.2.1
theorem LW.W7 {W H nk b : Nat} {sc sm : ST} (h : LW W H nk b sc sm) : W ≤ 7 := h.2.2.2.2.2.1
theorem LW.H2 {W H nk b : Nat} {sc sm : ST} (h : LW W H nk b sc sm) : 2 ≤ H := h.2.2.2.2.2.2.1
theorem LW.H7 {W H nk b : Nat} {sc sm : ST} (h : LW W H nk b sc sm) : H ≤ 7 := h.2.2.2.2.2.2.2.1
theorem LW.n8 {W H nk b : Nat} {sc sm : ST} (h : LW W H nk b sc sm) : nk ≤ 8 := h.2.2.2.2.2.2.2.2.1
theorem LW.day {W H nk b : Nat} {sc sm : ST} (h : LW W H nk b sc sm) : sc.1 b 2 = sm.1 1 0 := h.2.2.2.2.2.2.2.2.2.1
theorem LW.wind {W H nk b : Nat} {sc sm : ST} (h : LW W H nk b sc sm) : ∃ d, d < 4 ∧ sc.1 b 3 = nI d ∧ sm.1 1 3 = nI ((d + 3) % 4) := h.2.2.2.2.2.2.2.2.2.2.1
theorem LW.birds {W H nk b : Nat} {sc sm : ST} (h : LW W H nk b sc sm) : ∃ n, n ≤ 1000 ∧ sc.1 b 4 = nI n ∧ sm.1 0 8 = nI n := h.2.2.2.2.2.2.2.2.2.2.2.1
theorem LW.harm {W H nk b : Nat} {sc sm : ST} (h : LW W H nk b sc sm) : sc.1 b 5 = sm.1 1 4 := h.2.2.2.2.2.2.2.2.2.2.2.2.1
theorem LW.draws {W H nk b : Nat} {sc sm : ST} (h : LW W H nk b sc sm) : sc.1 b 6 = sm.1 1 1 := h.2.2.2.2.2.2.2.2.2.2.2.2.2.1
theorem LW.wet {W H nk b : Nat} {sc sm : ST} (h : LW W H nk b sc sm) : ∀ k, k < 64 → cl W H k → ∃ n, n ≤ 9 ∧ sc.1 (b + 1) k = nI n ∧ sm.1 1 (5 + k) + 3 = nI n := h.2.2.2.2.2.2.2.2.2.2.2.2.2.2.1
theorem LW.hed {W H nk b : Nat} {sc sm : ST} (h : LW W H nk b sc sm) : ∀ k, k < 64 → sm.1 4 k = if bq (sc.2 b 7) k = true then 1 else 0 := h.2.2.2.2.2.2.2.2.2.2.2.2.2.2.2.1
theorem LW.hcl {W H nk b : Nat} {sc sm : ST} (h : LW W H nk b sc sm) : ∀ k, k < 64 → bq (sc.2 b 7) k = true → cl W H k := h.2.2.2.2.2.2.2.2.2.2.2.2.2.2.2.2.1
theorem LW.st {W H nk b : Nat} {sc sm : ST} (h : LW W H nk b sc sm) : ∀ k, k < 64 → bq (sc.2 b 9) k = true → cl W H k ∧ ∃ n g, n < nk ∧ 1 ≤ g ∧ g ≤ 9 ∧ sc.1 (b + 4) k = nI n ∧ sm.1 1 (197 + k) = nI (n + 1) ∧ sc.1 (b + 5) k = nI g ∧ sm.1 1 (261 + k) = nI g ∧ sc.1 (b + 6) k = sm.1 1 (325 + k) := h.2.2.2.2.2.2.2.2.2.2.2.2.2.2.2.2.2.1
theorem LW.st0 {W H nk b : Nat} {sc sm : ST} (h : LW W H nk b sc sm) : ∀ k, k < 64 → bq (sc.2 b 9) k = false → sm.1 1 (197 + k) = 0 := h.2.2.2.2.2.2.2.2.2.2.2.2.2.2.2.2.2.2
def LD (W H nk b : Nat) (sc sm : ST) : Prop :=
  (sc.1 b 0 = nI W) ∧
  (sm.1 0 6 + 5 = nI W) ∧
  (sc.1 b 1 = nI H) ∧
  (sm.1 0 7 + 4 = nI H) ∧
  (2 ≤ W) ∧
  (W ≤ 7) ∧
  (2 ≤ H) ∧
  (H ≤ 7) ∧
  (nk ≤ 8) ∧
  (sc.1 b 2 = sm.1 1 0) ∧
  (∃ d, d < 4 ∧ sc.1 b 3 = nI d ∧ sm.1 1 3 = nI ((d + 3) % 4)) ∧
  (∃ n, n ≤ 1000 ∧ sc.1 b 4 = nI n ∧ sm.1 0 8 = nI n) ∧
  (sc.1 b 5 = sm.1 1 4) ∧
  (sc.1 b 6 = sm.1 1 1) ∧
  (∀ k, k < 64 → cl W H k → ∃ n, n ≤ 9 ∧ sc.1 (b + 1) k = nI n ∧ sm.1 1 (5 + k) + 3 = nI n) ∧
  (∀ k, k < 64 → sm.1 4 k = if bq (sc.2 b 7) k = true then 1 else 0) ∧
  (∀ k, k < 64 → bq (sc.2 b 7) k = true → cl W H k) ∧
  (∀ k, k < 64 → bq (sc.2 b 8) k = true → cl W H k ∧ ∃ n, n < nk ∧ sc.1 (b + 2) k = nI n ∧ sm.1 1 (69 + k) = nI (n + 1) ∧ sc.1 (b + 3) k = sm.1 1 (133 + k)) ∧
  (∀ k, k < 64 → bq (sc.2 b 8) k = false → sm.1 1 (69 + k) = 0) ∧
  (∀ k, k < 64 → bq (sc.2 b 9) k = true → cl W H k ∧ ∃ n g, n < nk ∧ 1 ≤ g ∧ g ≤ 9 ∧ sc.1 (b + 4) k = nI n ∧ sm.1 1 (197 + k) = nI (n + 1) ∧ sc.1 (b + 5) k = nI g ∧ sm.1 1 (261 + k) = nI g ∧ sc.1 (b + 6) k = sm.1 1 (325 + k)) ∧
  (∀ k, k < 64 → bq (sc.2 b 9) k = false → sm.1 1 (197 + k) = 0)
theorem LD.w {W H nk b : Nat} {sc sm : ST} (h : LD W H nk b sc sm) : sc.1 b 0 = nI W := h.1
theorem LD.w' {W H nk b : Nat} {sc sm : ST} (h : LD W H nk b sc sm) : sm.1 0 6 + 5 = nI W := h.2.1
theorem LD.h {W H nk b : Nat} {sc sm : ST} (h : LD W H nk b sc sm) : sc.1 b 1 = nI H := h.2.2.1
theorem LD.h' {W H nk b : Nat} {sc sm : ST} (h : LD W H nk b sc sm) : sm.1 0 7 + 4 = nI H := h.2.2.2.1
theorem LD.W2 {W H nk b : Nat} {sc sm : ST} (h : LD W H nk b sc sm) : 2 ≤ W := h.2.2.2.2.1
theorem LD.W7 {W H nk b : Nat} {sc sm : ST} (h : LD W H nk b sc sm) : W ≤ 7 := h.2.2.2.2.2.1
theorem LD.H2 {W H nk b : Nat} {sc sm : ST} (h : LD W H nk b sc sm) : 2 ≤ H := h.2.2.2.2.2.2.1
theorem LD.H7 {W H nk b : Nat} {sc sm : ST} (h : LD W H nk b sc sm) : H ≤ 7 := h.2.2.2.2.2.2.2.1
theorem LD.n8 {W H nk b : Nat} {sc sm : ST} (h : LD W H nk b sc sm) : nk ≤ 8 := h.2.2.2.2.2.2.2.2.1
theorem LD.day {W H nk b : Nat} {sc sm : ST} (h : LD W H nk b sc sm) : sc.1 b 2 = sm.1 1 0 := h.2.2.2.2.2.2.2.2.2.1
theorem LD.wind {W H nk b : Nat} {sc sm : ST} (h : LD W H nk b sc sm) : ∃ d, d < 4 ∧ sc.1 b 3 = nI d ∧ sm.1 1 3 = nI ((d + 3) % 4) := h.2.2.2.2.2.2.2.2.2.2.1
theorem LD.birds {W H nk b : Nat} {sc sm : ST} (h : LD W H nk b sc sm) : ∃ n, n ≤ 1000 ∧ sc.1 b 4 = nI n ∧ sm.1 0 8 = nI n := h.2.2.2.2.2.2.2.2.2.2.2.1
theorem LD.harm {W H nk b : Nat} {sc sm : ST} (h : LD W H nk b sc sm) : sc.1 b 5 = sm.1 1 4 := h.2.2.2.2.2.2.2.2.2.2.2.2.1
theorem LD.draws {W H nk b : Nat} {sc sm : ST} (h : LD W H nk b sc sm) : sc.1 b 6 = sm.1 1 1 := h.2.2.2.2.2.2.2.2.2.2.2.2.2.1
theorem LD.wet {W H nk b : Nat} {sc sm : ST} (h : LD W H nk b sc sm) : ∀ k, k < 64 → cl W H k → ∃ n, n ≤ 9 ∧ sc.1 (b + 1) k = nI n ∧ sm.1 1 (5 + k) + 3 = nI n := h.2.2.2.2.2.2.2.2.2.2.2.2.2.2.1
theorem LD.hed {W H nk b : Nat} {sc sm : ST} (h : LD W H nk b sc sm) : ∀ k, k < 64 → sm.1 4 k = if bq (sc.2 b 7) k = true then 1 else 0 := h.2.2.2.2.2.2.2.2.2.2.2.2.2.2.2.1
theorem LD.hcl {W H nk b : Nat} {sc sm : ST} (h : LD W H nk b sc sm) : ∀ k, k < 64 → bq (sc.2 b 7) k = true → cl W H k := h.2.2.2.2.2.2.2.2.2.2.2.2.2.2.2.2.1
theorem LD.sd {W H nk b : Nat} {sc sm : ST} (h : LD W H nk b sc sm) : ∀ k, k < 64 → bq (sc.2 b 8) k = true → cl W H k ∧ ∃ n, n < nk ∧ sc.1 (b + 2) k = nI n ∧ sm.1 1 (69 + k) = nI (n + 1) ∧ sc.1 (b + 3) k = sm.1 1 (133 + k) := h.2.2.2.2.2.2.2.2.2.2.2.2.2.2.2.2.2.1
theorem LD.sd0 {W H nk b : Nat} {sc sm : ST} (h : LD W H nk b sc sm) : ∀ k, k < 64 → bq (sc.2 b 8) k = false → sm.1 1 (69 + k) = 0 := h.2.2.2.2.2.2.2.2.2.2.2.2.2.2.2.2.2.2.1
theorem LD.st {W H nk b : Nat} {sc sm : ST} (h : LD W H nk b sc sm) : ∀ k, k < 64 → bq (sc.2 b 9) k = true → cl W H k ∧ ∃ n g, n < nk ∧ 1 ≤ g ∧ g ≤ 9 ∧ sc.1 (b + 4) k = nI n ∧ sm.1 1 (197 + k) = nI (n + 1) ∧ sc.1 (b + 5) k = nI g ∧ sm.1 1 (261 + k) = nI g ∧ sc.1 (b + 6) k = sm.1 1 (325 + k) := h.2.2.2.2.2.2.2.2.2.2.2.2.2.2.2.2.2.2.2.1
theorem LD.st0 {W H nk b : Nat} {sc sm : ST} (h : LD W H nk b sc sm) : ∀ k, k < 64 → bq (sc.2 b 9) k = false → sm.1 1 (197 + k) = 0 := h.2.2.2.2.2.2.2.2.2.2.2.2.2.2.2.2.2.2.2.2
theorem LD.lw {W H nk b : Nat} {sc sm : ST} (h : LD W H nk b sc sm) : LW W H nk b sc sm := ⟨h.w, h.w', h.h, h.h', h.W2, h.W7, h.H2, h.H7, h.n8, h.day, h.wind, h.birds, h.harm, h.draws, h.wet, h.hed, h.hcl, h.st, h.st0⟩
def TD (W H nk nc nl nw np t : Nat) (sc sm : ST) : Prop :=
  (sc.1 (t + 1) 2 = nI nk) ∧
  (sm.1 0 34 = nI nk) ∧
  (nk ≤ 8) ∧
  (∀ i, i < nk → ∃ a b c, 1 ≤ a ∧ a ≤ 20 ∧ 1 ≤ b ∧ b ≤ 9 ∧ c ≤ 6 ∧ sc.1 (t + 2) (4 * i) = nI a ∧ sc.1 (t + 2) (4 * i + 1) = nI b ∧ sc.1 (t + 2) (4 * i + 2) = nI c ∧ sm.1 16 (3 * i) = nI a ∧ sm.1 16 (3 * i + 1) = nI b ∧ sm.1 16 (3 * i + 2) = nI c) ∧
  (sc.1 (t + 3) 2 = nI nc) ∧
  (sm.1 0 36 = nI nc) ∧
  (nc ≤ 10) ∧
  (∀ i, i < nc → ∃ a b c, a < nk ∧ b < nk ∧ c < nk ∧ sc.1 (t + 4) (4 * i) = nI a ∧ sc.1 (t + 4) (4 * i + 1) = nI b ∧ sc.1 (t + 4) (4 * i + 2) = nI c ∧ sm.1 17 (3 * i) = nI a ∧ sm.1 17 (3 * i + 1) = nI b ∧ sm.1 17 (3 * i + 2) = nI c) ∧
  (sc.1 (t + 6) 2 = nI nl) ∧
  (sm.1 8 1 = nI nl) ∧
  (nl ≤ 16) ∧
  (∀ i, i < nl → ∃ w p q r t1, w ≤ 1 ∧ p ≤ q ∧ q ≤ r ∧ r ≤ 400 ∧ sc.1 (t + 7) (4 * i) = nI w ∧ sc.1 (t + 7) (4 * i + 1) = nI p ∧ sc.1 (t + 7) (4 * i + 2) = nI q ∧ sc.1 (t + 7) (4 * i + 3) = nI r ∧ sm.1 9 (16 + i) = nI w ∧ sm.1 10 (16 + i) = nI p ∧ sm.1 11 (16 + i) = nI q ∧ sm.1 12 (16 + i) = nI r ∧ (∀ j, p ≤ j → j < r → PR (sc.1 (t + 8) j) (sm.1 13 (400 + j)) (sm.1 14 (400 + j))) ∧ tyR (fun j => sm.1 13 (400 + j)) (fun j => sm.1 14 (400 + j)) (q - p) p [] = some [t1] ∧ (q < r → tyR (fun j => sm.1 13 (400 + j)) (fun j => sm.1 14 (400 + j)) (r - q) q [] = some [1])) ∧
  (sc.1 (t + 11) 2 = nI nw) ∧
  (sm.1 0 40 = nI nw) ∧
  (nw ≤ 10) ∧
  (∀ i, i < nw → ∃ c d v, c < 64 ∧ cl W H c ∧ d ≤ 999 ∧ 1 ≤ v ∧ v ≤ 99 ∧ sc.1 (t + 12) (4 * i + 1) = nI c ∧ sc.1 (t + 12) (4 * i + 2) = nI d ∧ sc.1 (t + 12) (4 * i + 3) = nI v ∧ sm.1 18 (4 * i + 1) = nI c ∧ sm.1 18 (4 * i + 2) = nI d ∧ sm.1 18 (4 * i + 3) = nI v ∧ ((sc.1 (t + 12) (4 * i) = -1 ∧ sm.1 18 (4 * i) = 8) ∨ ∃ n, n < nk ∧ sc.1 (t + 12) (4 * i) = nI n ∧ sm.1 18 (4 * i) = nI n)) ∧
  (sc.1 (t + 13) 2 = nI np) ∧
  (sm.1 0 42 = nI np) ∧
  (np ≤ 16) ∧
  (∀ i, i < np → ∃ d, d ≤ 999 ∧ sc.1 (t + 14) (4 * i) = nI d ∧ sm.1 19 (4 * i) = nI d ∧ ((∃ n c, n < nk ∧ c < 64 ∧ cl W H c ∧ sc.1 (t + 14) (4 * i + 1) = 0 ∧ sm.1 19 (4 * i + 1) = 0 ∧ sc.1 (t + 14) (4 * i + 2) = nI n ∧ sc.1 (t + 14) (4 * i + 3) = nI c ∧ sm.1 19 (4 * i + 2) = nI n ∧ sm.1 19 (4 * i + 3) = nI c) ∨ (∃ c, c < 64 ∧ cl W H c ∧ sc.1 (t + 14) (4 * i + 1) = 1 ∧ sm.1 19 (4 * i + 1) = 1 ∧ sc.1 (t + 14) (4 * i + 3) = nI c ∧ sm.1 19 (4 * i + 3) = nI c) ∨ (∃ w, w < 4 ∧ sc.1 (t + 14) (4 * i + 1) = 2 ∧ sm.1 19 (4 * i + 1) = 2 ∧ sc.1 (t + 14) (4 * i + 2) = nI w ∧ sm.1 19 (4 * i + 3) = nI w)))
theorem TD.k {W H nk nc nl nw np t : Nat} {sc sm : ST} (h : TD W H nk nc nl nw np t sc sm) : sc.1 (t + 1) 2 = nI nk := h.1
theorem TD.k' {W H nk nc nl nw np t : Nat} {sc sm : ST} (h : TD W H nk nc nl nw np t sc sm) : sm.1 0 34 = nI nk := h.2.1
theorem TD.k8 {W H nk nc nl nw np t : Nat} {sc sm : ST} (h : TD W H nk nc nl nw np t sc sm) : nk ≤ 8 := h.2.2.1
theorem TD.kd {W H nk nc nl nw np t : Nat} {sc sm : ST} (h : TD W H nk nc nl nw np t sc sm) : ∀ i, i < nk → ∃ a b c, 1 ≤ a ∧ a ≤ 20 ∧ 1 ≤ b ∧ b ≤ 9 ∧ c ≤ 6 ∧ sc.1 (t + 2) (4 * i) = nI a ∧ sc.1 (t + 2) (4 * i + 1) = nI b ∧ sc.1 (t + 2) (4 * i + 2) = nI c ∧ sm.1 16 (3 * i) = nI a ∧ sm.1 16 (3 * i + 1) = nI b ∧ sm.1 16 (3 * i + 2) = nI c := h.2.2.2.1
theorem TD.c {W H nk nc nl nw np t : Nat} {sc sm : ST} (h : TD W H nk nc nl nw np t sc sm) : sc.1 (t + 3) 2 = nI nc := h.2.2.2.2.1
theorem TD.c' {W H nk nc nl nw np t : Nat} {sc sm : ST} (h : TD W H nk nc nl nw np t sc sm) : sm.1 0 36 = nI nc := h.2.2.2.2.2.1
theorem TD.c10 {W H nk nc nl nw np t : Nat} {sc sm : ST} (h : TD W H nk nc nl nw np t sc sm) : nc ≤ 10 := h.2.2.2.2.2.2.1
theorem TD.cd {W H nk nc nl nw np t : Nat} {sc sm : ST} (h : TD W H nk nc nl nw np t sc sm) : ∀ i, i < nc → ∃ a b c, a < nk ∧ b < nk ∧ c < nk ∧ sc.1 (t + 4) (4 * i) = nI a ∧ sc.1 (t + 4) (4 * i + 1) = nI b ∧ sc.1 (t + 4) (4 * i + 2) = nI c ∧ sm.1 17 (3 * i) = nI a ∧ sm.1 17 (3 * i + 1) = nI b ∧ sm.1 17 (3 * i + 2) = nI c := h.2.2.2.2.2.2.2.1
theorem TD.l {W H nk nc nl nw np t : Nat} {sc sm : ST} (h : TD W H nk nc nl nw np t sc sm) : sc.1 (t + 6) 2 = nI nl := h.2.2.2.2.2.2.2.2.1
theorem TD.l' {W H nk nc nl nw np t : Nat} {sc sm : ST} (h : TD W H nk nc nl nw np t sc sm) : sm.1 8 1 = nI nl := h.2.2.2.2.2.2.2.2.2.1
theorem TD.l16 {W H nk nc nl nw np t : Nat} {sc sm : ST} (h : TD W H nk nc nl nw np t sc sm) : nl ≤ 16 := h.2.2.2.2.2.2.2.2.2.2.1
theorem TD.ld {W H nk nc nl nw np t : Nat} {sc sm : ST} (h : TD W H nk nc nl nw np t sc sm) : ∀ i, i < nl → ∃ w p q r t1, w ≤ 1 ∧ p ≤ q ∧ q ≤ r ∧ r ≤ 400 ∧ sc.1 (t + 7) (4 * i) = nI w ∧ sc.1 (t + 7) (4 * i + 1) = nI p ∧ sc.1 (t + 7) (4 * i + 2) = nI q ∧ sc.1 (t + 7) (4 * i + 3) = nI r ∧ sm.1 9 (16 + i) = nI w ∧ sm.1 10 (16 + i) = nI p ∧ sm.1 11 (16 + i) = nI q ∧ sm.1 12 (16 + i) = nI r ∧ (∀ j, p ≤ j → j < r → PR (sc.1 (t + 8) j) (sm.1 13 (400 + j)) (sm.1 14 (400 + j))) ∧ tyR (fun j => sm.1 13 (400 + j)) (fun j => sm.1 14 (400 + j)) (q - p) p [] = some [t1] ∧ (q < r → tyR (fun j => sm.1 13 (400 + j)) (fun j => sm.1 14 (400 + j)) (r - q) q [] = some [1]) := h.2.2.2.2.2.2.2.2.2.2.2.1
theorem TD.w {W H nk nc nl nw np t : Nat} {sc sm : ST} (h : TD W H nk nc nl nw np t sc sm) : sc.1 (t + 11) 2 = nI nw := h.2.2.2.2.2.2.2.2.2.2.2.2.1
theorem TD.w' {W H nk nc nl nw np t : Nat} {sc sm : ST} (h : TD W H nk nc nl nw np t sc sm) : sm.1 0 40 = nI nw := h.2.2.2.2.2.2.2.2.2.2.2.2.2.1
theorem TD.w10 {W H nk nc nl nw np t : Nat} {sc sm : ST} (h : TD W H nk nc nl nw np t sc sm) : nw ≤ 10 := h.2.2.2.2.2.2.2.2.2.2.2.2.2.2.1
theorem TD.wd {W H nk nc nl nw np t : Nat} {sc sm : ST} (h : TD W H nk nc nl nw np t sc sm) : ∀ i, i < nw → ∃ c d v, c < 64 ∧ cl W H c ∧ d ≤ 999 ∧ 1 ≤ v ∧ v ≤ 99 ∧ sc.1 (t + 12) (4 * i + 1) = nI c ∧ sc.1 (t + 12) (4 * i + 2) = nI d ∧ sc.1 (t + 12) (4 * i + 3) = nI v ∧ sm.1 18 (4 * i + 1) = nI c ∧ sm.1 18 (4 * i + 2) = nI d ∧ sm.1 18 (4 * i + 3) = nI v ∧ ((sc.1 (t + 12) (4 * i) = -1 ∧ sm.1 18 (4 * i) = 8) ∨ ∃ n, n < nk ∧ sc.1 (t + 12) (4 * i) = nI n ∧ sm.1 18 (4 * i) = nI n) := h.2.2.2.2.2.2.2.2.2.2.2.2.2.2.2.1
theorem TD.p {W H nk nc nl nw np t : Nat} {sc sm : ST} (h : TD W H nk nc nl nw np t sc sm) : sc.1 (t + 13) 2 = nI np := h.2.2.2.2.2.2.2.2.2.2.2.2.2.2.2.2.1
theorem TD.p' {W H nk nc nl nw np t : Nat} {sc sm : ST} (h : TD W H nk nc nl nw np t sc sm) : sm.1 0 42 = nI np := h.2.2.2.2.2.2.2.2.2.2.2.2.2.2.2.2.2.1
theorem TD.p16 {W H nk nc nl nw np t : Nat} {sc sm : ST} (h : TD W H nk nc nl nw np t sc sm) : np ≤ 16 := h.2.2.2.2.2.2.2.2.2.2.2.2.2.2.2.2.2.2.1
theorem TD.pd {W H nk nc nl nw np t : Nat} {sc sm : ST} (h : TD W H nk nc nl nw np t sc sm) : ∀ i, i < np → ∃ d, d ≤ 999 ∧ sc.1 (t + 14) (4 * i) = nI d ∧ sm.1 19 (4 * i) = nI d ∧ ((∃ n c, n < nk ∧ c < 64 ∧ cl W H c ∧ sc.1 (t + 14) (4 * i + 1) = 0 ∧ sm.1 19 (4 * i + 1) = 0 ∧ sc.1 (t + 14) (4 * i + 2) = nI n ∧ sc.1 (t + 14) (4 * i + 3) = nI c ∧ sm.1 19 (4 * i + 2) = nI n ∧ sm.1 19 (4 * i + 3) = nI c) ∨ (∃ c, c < 64 ∧ cl W H c ∧ sc.1 (t + 14) (4 * i + 1) = 1 ∧ sm.1 19 (4 * i + 1) = 1 ∧ sc.1 (t + 14) (4 * i + 3) = nI c ∧ sm.1 19 (4 * i + 3) = nI c) ∨ (∃ w, w < 4 ∧ sc.1 (t + 14) (4 * i + 1) = 2 ∧ sm.1 19 (4 * i + 1) = 2 ∧ sc.1 (t + 14) (4 * i + 2) = nI w ∧ sm.1 19 (4 * i + 3) = nI w)) := h.2.2.2.2.2.2.2.2.2.2.2.2.2.2.2.2.2.2.2
