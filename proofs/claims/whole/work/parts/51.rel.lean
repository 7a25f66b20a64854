/-! ===== what holds between the class's memory and the reference's ===== -/
def c5 : List Nat → Int64 := List.foldl (fun v x => v * 32 + Int64.ofNat x) 0
def c8 : List Nat → Int64 := List.foldl (fun v x => v <<< 8 ||| Int64.ofNat (x + 96)) 0
def nmR (a b : Int64) : Prop := ∃ w : List Nat, 0 < w.length ∧ w.length ≤ 8 ∧ (∀ x ∈ w, 1 ≤ x ∧ x ≤ 26) ∧ a = c5 w ∧ b = c8 w
def bd (x : Int32) (lo hi : Int) : Prop := lo ≤ x.toInt ∧ x.toInt ≤ hi
/-- who is meant: nobody, or one of so many -/
def who (x : Int32) (m : Nat) : Prop := x = -1 ∨ ∃ p, p < m ∧ x = nI p
/-- a step's fields: the class's by its offset, the reference's row -/
def yF (m : Nat) (w : Nat → Int32) (a : Nat → Int32) : Prop :=
  (a 0 = 17 ∧ w 120 = 17 ∧ w 122 = a 1 ∧ who (a 1) m) ∨
  (a 0 = 18 ∧ w 120 = 18 ∧ w 122 = a 1 ∧ w 123 = a 2 ∧ ∃ p q, p < m ∧ q < m ∧ p ≠ q ∧ a 1 = nI p ∧ a 2 = nI q) ∨
  ((a 0 = 19 ∨ a 0 = 20) ∧ w 120 = a 0 ∧ w 122 = a 1 ∧ w 123 = a 2 ∧ w 125 = a 3 ∧ bd (a 3) 1 999 ∧ ∃ p q, p < m ∧ q < m ∧ p ≠ q ∧ a 1 = nI p ∧ a 2 = nI q) ∨
  (a 0 = 21 ∧ w 120 = 21) ∨
  (a 0 = 27 ∧ w 120 = 28)
/-- a test's fields -/
def yT (m : Nat) (w : Nat → Int32) (a : Nat → Int32) : Prop :=
  w 120 = 24 ∧ w 122 = a 1 ∧ (∃ p, p < m ∧ a 1 = nI p) ∧
  ((a 0 = 2415 ∧ w 121 = 15) ∨
   (w 124 = a 5 ∧ w 125 = a 3 ∧ (a 5 = 60 ∨ a 5 = 61 ∨ a 5 = 62) ∧
    ((a 0 = 2428 ∧ w 121 = 25) ∨ (a 0 = 2403 ∧ w 121 = 9 ∧ w 123 = a 2 ∧ ∃ q, q < m ∧ a 2 = nI q))))
/-- the rows of a year, with ends, and the class's steps: c counts steps, e is where a block ends, enc the loops that are open -/
def yB (m N S : Nat) (w : Nat → Nat → Int32) (a : Nat → Nat → Int32) (c e : Nat → Nat) (enc : Nat → List Nat) : Prop :=
  (N ≤ 60) ∧
  (S ≤ 30) ∧
  (c 0 = 0) ∧
  (c N = S) ∧
  (enc 0 = []) ∧
  (enc N = []) ∧
  (∀ k, k ≤ N → (enc k).length ≤ 3) ∧
  (∀ k, k ≤ N → ∀ o ∈ enc k, o < k ∧ k ≤ e o ∧ e o < N ∧ a o 0 = 25 ∧ w 126 (c o) = nI (c (e o))) ∧
  (∀ k, k < N →
    (c (k + 1) = c k + 1 ∧ enc (k + 1) = enc k ∧ yF m (fun o => w o (c k)) (a k)) ∨
    (c (k + 1) = c k + 1 ∧ enc (k + 1) = k :: enc k ∧ a k 0 = 25 ∧ w 120 (c k) = 26 ∧ w 125 (c k) = a k 1 ∧ bd (a k 1) 1 99) ∨
    (c (k + 1) = c k + 1 ∧ enc (k + 1) = enc k ∧ yT m (fun o => w o (c k)) (a k) ∧ k < e k ∧ e k < N ∧ a k 4 = nI (e k) ∧ w 126 (c k) = nI (c (e k)) ∧ enc (e k + 1) = enc k ∧ c (e k + 1) = c (e k)) ∨
    (c (k + 1) = c k ∧ a k 0 = 26 ∧ ∃ o, o < k ∧ a k 4 = nI o ∧ ((a o 0 = 25 ∧ enc k = o :: enc (k + 1) ∧ e o = k) ∨ (a o 0 ≠ 25 ∧ enc (k + 1) = enc k))))
theorem yB.hN {m N S : Nat} {w : Nat → Nat → Int32} {a : Nat → Nat → Int32} {c e : Nat → Nat} {enc : Nat → List Nat} (h : yB m N S w a c e enc) : N ≤ 60 := h.1
theorem yB.hS {m N S : Nat} {w : Nat → Nat → Int32} {a : Nat → Nat → Int32} {c e : Nat → Nat} {enc : Nat → List Nat} (h : yB m N S w a c e enc) : S ≤ 30 := h.2.1
theorem yB.c0 {m N S : Nat} {w : Nat → Nat → Int32} {a : Nat → Nat → Int32} {c e : Nat → Nat} {enc : Nat → List Nat} (h : yB m N S w a c e enc) : c 0 = 0 := h.2.2.1
theorem yB.cN {m N S : Nat} {w : Nat → Nat → Int32} {a : Nat → Nat → Int32} {c e : Nat → Nat} {enc : Nat → List Nat} (h : yB m N S w a c e enc) : c N = S := h.2.2.2.1
theorem yB.e0 {m N S : Nat} {w : Nat → Nat → Int32} {a : Nat → Nat → Int32} {c e : Nat → Nat} {enc : Nat → List Nat} (h : yB m N S w a c e enc) : enc 0 = [] := h.2.2.2.2.1
theorem yB.eN {m N S : Nat} {w : Nat → Nat → Int32} {a : Nat → Nat → Int32} {c e : Nat → Nat} {enc : Nat → List Nat} (h : yB m N S w a c e enc) : enc N = [] := h.2.2.2.2.2.1
theorem yB.le3 {m N S : Nat} {w : Nat → Nat → Int32} {a : Nat → Nat → Int32} {c e : Nat → Nat} {enc : Nat → List Nat} (h : yB m N S w a c e enc) : ∀ k, k ≤ N → (enc k).length ≤ 3 := h.2.2.2.2.2.2.1
theorem yB.ein {m N S : Nat} {w : Nat → Nat → Int32} {a : Nat → Nat → Int32} {c e : Nat → Nat} {enc : Nat → List Nat} (h : yB m N S w a c e enc) : ∀ k, k ≤ N → ∀ o ∈ enc k, o < k ∧ k ≤ e o ∧ e o < N ∧ a o 0 = 25 ∧ w 126 (c o) = nI (c (e o)) := h.2.2.2.2.2.2.2.1
theorem yB.row {m N S : Nat} {w : Nat → Nat → Int32} {a : Nat → Nat → Int32} {c e : Nat → Nat} {enc : Nat → List Nat} (h : yB m N S w a c e enc) : ∀ k, k < N →
    (c (k + 1) = c k + 1 ∧ enc (k + 1) = enc k ∧ yF m (fun o => w o (c k)) (a k)) ∨
    (c (k + 1) = c k + 1 ∧ enc (k + 1) = k :: enc k ∧ a k 0 = 25 ∧ w 120 (c k) = 26 ∧ w 125 (c k) = a k 1 ∧ bd (a k 1) 1 99) ∨
    (c (k + 1) = c k + 1 ∧ enc (k + 1) = enc k ∧ yT m (fun o => w o (c k)) (a k) ∧ k < e k ∧ e k < N ∧ a k 4 = nI (e k) ∧ w 126 (c k) = nI (c (e k)) ∧ enc (e k + 1) = enc k ∧ c (e k + 1) = c (e k)) ∨
    (c (k + 1) = c k ∧ a k 0 = 26 ∧ ∃ o, o < k ∧ a k 4 = nI o ∧ ((a o 0 = 25 ∧ enc k = o :: enc (k + 1) ∧ e o = k) ∨ (a o 0 ≠ 25 ∧ enc (k + 1) = enc k))) := h.2.2.2.2.2.2.2.2
theorem yB.mk {m N S : Nat} {w : Nat → Nat → Int32} {a : Nat → Nat → Int32} {c e : Nat → Nat} {enc : Nat → List Nat} (hN : N ≤ 60) (hS : S ≤ 30) (c0 : c 0 = 0) (cN : c N = S) (e0 : enc 0 = []) (eN : enc N = []) (le3 : ∀ k, k ≤ N → (enc k).length ≤ 3) (ein : ∀ k, k ≤ N → ∀ o ∈ enc k, o < k ∧ k ≤ e o ∧ e o < N ∧ a o 0 = 25 ∧ w 126 (c o) = nI (c (e o))) (row : ∀ k, k < N →
    (c (k + 1) = c k + 1 ∧ enc (k + 1) = enc k ∧ yF m (fun o => w o (c k)) (a k)) ∨
    (c (k + 1) = c k + 1 ∧ enc (k + 1) = k :: enc k ∧ a k 0 = 25 ∧ w 120 (c k) = 26 ∧ w 125 (c k) = a k 1 ∧ bd (a k 1) 1 99) ∨
    (c (k + 1) = c k + 1 ∧ enc (k + 1) = enc k ∧ yT m (fun o => w o (c k)) (a k) ∧ k < e k ∧ e k < N ∧ a k 4 = nI (e k) ∧ w 126 (c k) = nI (c (e k)) ∧ enc (e k + 1) = enc k ∧ c (e k + 1) = c (e k)) ∨
    (c (k + 1) = c k ∧ a k 0 = 26 ∧ ∃ o, o < k ∧ a k 4 = nI o ∧ ((a o 0 = 25 ∧ enc k = o :: enc (k + 1) ∧ e o = k) ∨ (a o 0 ≠ 25 ∧ enc (k + 1) = enc k)))) : yB m N S w a c e enc :=
  ⟨hN, hS, c0, cN, e0, eN, le3, ein, row⟩
def yR (m g b : Nat) (Dc Dm : mz_D) : Prop :=
  (Dc.1 g 119 0 = 0 ∧ Dm.1 0 201 (b + 9) = -1) ∨
  (Dc.1 g 119 0 = 1 ∧ ∃ N S c e enc, Dm.1 0 201 (b + 9) = nI N ∧ Dc.1 g 119 1 = nI S ∧ yB m N S (fun o k => Dc.1 g o k) (fun k i => Dm.1 0 201 (b + 130 + 6 * k + i)) c e enc)
/-- a table of the class, and a slot of the reference -/
def tR (n g b nb : Nat) (Dc Dm : mz_D) (m d gs ins : Nat) : Prop :=
  (m ≤ 6) ∧
  (d ≤ 16) ∧
  (gs < 2 ^ m) ∧
  (ins < 2 ^ m) ∧
  (Dc.1 g 101 0 = nI m) ∧
  (Dm.1 0 201 b = nI m) ∧
  (Dm.1 0 201 (b + 1) = Dc.1 g 101 1) ∧
  (Dc.1 g 109 0 = nI d) ∧
  (Dm.1 0 201 (b + 2) = nI d) ∧
  (Dm.1 0 201 (b + 3) = Dc.1 g 109 1) ∧
  (Dc.1 g 109 1 = 0 ∨ Dc.1 g 109 1 = 1 ∨ Dc.1 g 109 1 = 2) ∧
  (Dm.1 0 201 (b + 4) = Dc.1 g 100 5) ∧
  (Dc.1 g 100 5 = 0 ∨ Dc.1 g 100 5 = 1 ∨ Dc.1 g 100 5 = 2 ∨ Dc.1 g 100 5 = 3) ∧
  (Dm.1 0 201 (b + 5) = Dc.1 g 117 1) ∧
  (Dm.1 0 201 (b + 6) = Dc.1 g 100 6) ∧
  (Dc.1 g 101 2 = nI gs) ∧
  (Dm.1 0 201 (b + 7) = nI gs) ∧
  (Dc.1 g 117 0 = nI ins) ∧
  (Dm.1 0 201 (b + 8) = nI ins) ∧
  (∀ p, p < m → nmR (Dc.2 g 102 p) (Dm.2 0 202 (nb + p))) ∧
  (∀ p, p < m → Dm.1 0 201 (b + 12 + 8 * p) = Dc.1 g 103 p ∧ bd (Dc.1 g 103 p) 0 16) ∧
  (∀ p, p < m → Dm.1 0 201 (b + 13 + 8 * p) = Dc.1 g 104 p ∧ bd (Dc.1 g 104 p) 0 20) ∧
  (∀ p, p < m → Dm.1 0 201 (b + 14 + 8 * p) = Dc.1 g 105 p ∧ bd (Dc.1 g 105 p) 0 99) ∧
  (∀ p, p < m → Dm.1 0 201 (b + 15 + 8 * p) = Dc.1 g 106 p ∧ bd (Dc.1 g 106 p) 0 999) ∧
  (∀ p, p < m → Dm.1 0 201 (b + 16 + 8 * p) = Dc.1 g 107 p ∧ who (Dc.1 g 107 p) m) ∧
  (∀ p, p < m → Dm.1 0 201 (b + 17 + 8 * p) = Dc.1 g 108 p ∧ bd (Dc.1 g 108 p) 0 (301 * n)) ∧
  (∀ p, p < m → Dm.1 0 201 (b + 18 + 8 * p) - Dm.1 0 201 (b + 19 + 8 * p) = Dc.1 g 118 p) ∧
  (∀ k, k < d → Dm.1 0 201 (b + 60 + 2 * k) = Dc.1 g 110 k ∧ bd (Dc.1 g 110 k) 1 999) ∧
  (∀ k, k < d → Dm.1 0 201 (b + 61 + 2 * k) = Dc.1 g 111 k ∧ who (Dc.1 g 111 k) m) ∧
  (∀ k, k < 36 → Dm.1 0 201 (b + 92 + k) = Dc.1 g 114 k ∧ bd (Dc.1 g 114 k) 0 999999) ∧
  (∀ p q, p < 6 → q < 6 → m ≤ p ∨ m ≤ q → Dc.1 g 114 (6 * p + q) = 0) ∧
  (yR m g b Dc Dm)
theorem tR.hm {n g b nb : Nat} {Dc Dm : mz_D} {m d gs ins : Nat} (h : tR n g b nb Dc Dm m d gs ins) : m ≤ 6 := h.1
theorem tR.hd {n g b nb : Nat} {Dc Dm : mz_D} {m d gs ins : Nat} (h : tR n g b nb Dc Dm m d gs ins) : d ≤ 16 := h.2.1
theorem tR.hgs {n g b nb : Nat} {Dc Dm : mz_D} {m d gs ins : Nat} (h : tR n g b nb Dc Dm m d gs ins) : gs < 2 ^ m := h.2.2.1
theorem tR.hins {n g b nb : Nat} {Dc Dm : mz_D} {m d gs ins : Nat} (h : tR n g b nb Dc Dm m d gs ins) : ins < 2 ^ m := h.2.2.2.1
theorem tR.many_c {n g b nb : Nat} {Dc Dm : mz_D} {m d gs ins : Nat} (h : tR n g b nb Dc Dm m d gs ins) : Dc.1 g 101 0 = nI m := h.2.2.2.2.1
theorem tR.many_m {n g b nb : Nat} {Dc Dm : mz_D} {m d gs ins : Nat} (h : tR n g b nb Dc Dm m d gs ins) : Dm.1 0 201 b = nI m := h.2.2.2.2.2.1
theorem tR.couples {n g b nb : Nat} {Dc Dm : mz_D} {m d gs ins : Nat} (h : tR n g b nb Dc Dm m d gs ins) : Dm.1 0 201 (b + 1) = Dc.1 g 101 1 := h.2.2.2.2.2.2.1
theorem tR.dish_c {n g b nb : Nat} {Dc Dm : mz_D} {m d gs ins : Nat} (h : tR n g b nb Dc Dm m d gs ins) : Dc.1 g 109 0 = nI d := h.2.2.2.2.2.2.2.1
theorem tR.dish_m {n g b nb : Nat} {Dc Dm : mz_D} {m d gs ins : Nat} (h : tR n g b nb Dc Dm m d gs ins) : Dm.1 0 201 (b + 2) = nI d := h.2.2.2.2.2.2.2.2.1
theorem tR.split {n g b nb : Nat} {Dc Dm : mz_D} {m d gs ins : Nat} (h : tR n g b nb Dc Dm m d gs ins) : Dm.1 0 201 (b + 3) = Dc.1 g 109 1 := h.2.2.2.2.2.2.2.2.2.1
theorem tR.split_b {n g b nb : Nat} {Dc Dm : mz_D} {m d gs ins : Nat} (h : tR n g b nb Dc Dm m d gs ins) : Dc.1 g 109 1 = 0 ∨ Dc.1 g 109 1 = 1 ∨ Dc.1 g 109 1 = 2 := h.2.2.2.2.2.2.2.2.2.2.1
theorem tR.law {n g b nb : Nat} {Dc Dm : mz_D} {m d gs ins : Nat} (h : tR n g b nb Dc Dm m d gs ins) : Dm.1 0 201 (b + 4) = Dc.1 g 100 5 := h.2.2.2.2.2.2.2.2.2.2.2.1
theorem tR.law_b {n g b nb : Nat} {Dc Dm : mz_D} {m d gs ins : Nat} (h : tR n g b nb Dc Dm m d gs ins) : Dc.1 g 100 5 = 0 ∨ Dc.1 g 100 5 = 1 ∨ Dc.1 g 100 5 = 2 ∨ Dc.1 g 100 5 = 3 := h.2.2.2.2.2.2.2.2.2.2.2.2.1
theorem tR.rounds {n g b nb : Nat} {Dc Dm : mz_D} {m d gs ins : Nat} (h : tR n g b nb Dc Dm m d gs ins) : Dm.1 0 201 (b + 5) = Dc.1 g 117 1 := h.2.2.2.2.2.2.2.2.2.2.2.2.2.1
theorem tR.gifts {n g b nb : Nat} {Dc Dm : mz_D} {m d gs ins : Nat} (h : tR n g b nb Dc Dm m d gs ins) : Dm.1 0 201 (b + 6) = Dc.1 g 100 6 := h.2.2.2.2.2.2.2.2.2.2.2.2.2.2.1
theorem tR.guests_c {n g b nb : Nat} {Dc Dm : mz_D} {m d gs ins : Nat} (h : tR n g b nb Dc Dm m d gs ins) : Dc.1 g 101 2 = nI gs := h.2.2.2.2.2.2.2.2.2.2.2.2.2.2.2.1
theorem tR.guests_m {n g b nb : Nat} {Dc Dm : mz_D} {m d gs ins : Nat} (h : tR n g b nb Dc Dm m d gs ins) : Dm.1 0 201 (b + 7) = nI gs := h.2.2.2.2.2.2.2.2.2.2.2.2.2.2.2.2.1
theorem tR.in_c {n g b nb : Nat} {Dc Dm : mz_D} {m d gs ins : Nat} (h : tR n g b nb Dc Dm m d gs ins) : Dc.1 g 117 0 = nI ins := h.2.2.2.2.2.2.2.2.2.2.2.2.2.2.2.2.2.1
theorem tR.in_m {n g b nb : Nat} {Dc Dm : mz_D} {m d gs ins : Nat} (h : tR n g b nb Dc Dm m d gs ins) : Dm.1 0 201 (b + 8) = nI ins := h.2.2.2.2.2.2.2.2.2.2.2.2.2.2.2.2.2.2.1
theorem tR.names {n g b nb : Nat} {Dc Dm : mz_D} {m d gs ins : Nat} (h : tR n g b nb Dc Dm m d gs ins) : ∀ p, p < m → nmR (Dc.2 g 102 p) (Dm.2 0 202 (nb + p)) := h.2.2.2.2.2.2.2.2.2.2.2.2.2.2.2.2.2.2.2.1
theorem tR.insists {n g b nb : Nat} {Dc Dm : mz_D} {m d gs ins : Nat} (h : tR n g b nb Dc Dm m d gs ins) : ∀ p, p < m → Dm.1 0 201 (b + 12 + 8 * p) = Dc.1 g 103 p ∧ bd (Dc.1 g 103 p) 0 16 := h.2.2.2.2.2.2.2.2.2.2.2.2.2.2.2.2.2.2.2.2.1
theorem tR.quick {n g b nb : Nat} {Dc Dm : mz_D} {m d gs ins : Nat} (h : tR n g b nb Dc Dm m d gs ins) : ∀ p, p < m → Dm.1 0 201 (b + 13 + 8 * p) = Dc.1 g 104 p ∧ bd (Dc.1 g 104 p) 0 20 := h.2.2.2.2.2.2.2.2.2.2.2.2.2.2.2.2.2.2.2.2.2.1
theorem tR.minds {n g b nb : Nat} {Dc Dm : mz_D} {m d gs ins : Nat} (h : tR n g b nb Dc Dm m d gs ins) : ∀ p, p < m → Dm.1 0 201 (b + 14 + 8 * p) = Dc.1 g 105 p ∧ bd (Dc.1 g 105 p) 0 99 := h.2.2.2.2.2.2.2.2.2.2.2.2.2.2.2.2.2.2.2.2.2.2.1
theorem tR.means {n g b nb : Nat} {Dc Dm : mz_D} {m d gs ins : Nat} (h : tR n g b nb Dc Dm m d gs ins) : ∀ p, p < m → Dm.1 0 201 (b + 15 + 8 * p) = Dc.1 g 106 p ∧ bd (Dc.1 g 106 p) 0 999 := h.2.2.2.2.2.2.2.2.2.2.2.2.2.2.2.2.2.2.2.2.2.2.2.1
theorem tR.partner {n g b nb : Nat} {Dc Dm : mz_D} {m d gs ins : Nat} (h : tR n g b nb Dc Dm m d gs ins) : ∀ p, p < m → Dm.1 0 201 (b + 16 + 8 * p) = Dc.1 g 107 p ∧ who (Dc.1 g 107 p) m := h.2.2.2.2.2.2.2.2.2.2.2.2.2.2.2.2.2.2.2.2.2.2.2.2.1
theorem tR.paid {n g b nb : Nat} {Dc Dm : mz_D} {m d gs ins : Nat} (h : tR n g b nb Dc Dm m d gs ins) : ∀ p, p < m → Dm.1 0 201 (b + 17 + 8 * p) = Dc.1 g 108 p ∧ bd (Dc.1 g 108 p) 0 (301 * n) := h.2.2.2.2.2.2.2.2.2.2.2.2.2.2.2.2.2.2.2.2.2.2.2.2.2.1
theorem tR.ahead {n g b nb : Nat} {Dc Dm : mz_D} {m d gs ins : Nat} (h : tR n g b nb Dc Dm m d gs ins) : ∀ p, p < m → Dm.1 0 201 (b + 18 + 8 * p) - Dm.1 0 201 (b + 19 + 8 * p) = Dc.1 g 118 p := h.2.2.2.2.2.2.2.2.2.2.2.2.2.2.2.2.2.2.2.2.2.2.2.2.2.2.1
theorem tR.price {n g b nb : Nat} {Dc Dm : mz_D} {m d gs ins : Nat} (h : tR n g b nb Dc Dm m d gs ins) : ∀ k, k < d → Dm.1 0 201 (b + 60 + 2 * k) = Dc.1 g 110 k ∧ bd (Dc.1 g 110 k) 1 999 := h.2.2.2.2.2.2.2.2.2.2.2.2.2.2.2.2.2.2.2.2.2.2.2.2.2.2.2.1
theorem tR.eater {n g b nb : Nat} {Dc Dm : mz_D} {m d gs ins : Nat} (h : tR n g b nb Dc Dm m d gs ins) : ∀ k, k < d → Dm.1 0 201 (b + 61 + 2 * k) = Dc.1 g 111 k ∧ who (Dc.1 g 111 k) m := h.2.2.2.2.2.2.2.2.2.2.2.2.2.2.2.2.2.2.2.2.2.2.2.2.2.2.2.2.1
theorem tR.debt {n g b nb : Nat} {Dc Dm : mz_D} {m d gs ins : Nat} (h : tR n g b nb Dc Dm m d gs ins) : ∀ k, k < 36 → Dm.1 0 201 (b + 92 + k) = Dc.1 g 114 k ∧ bd (Dc.1 g 114 k) 0 999999 := h.2.2.2.2.2.2.2.2.2.2.2.2.2.2.2.2.2.2.2.2.2.2.2.2.2.2.2.2.2.1
theorem tR.nodebt {n g b nb : Nat} {Dc Dm : mz_D} {m d gs ins : Nat} (h : tR n g b nb Dc Dm m d gs ins) : ∀ p q, p < 6 → q < 6 → m ≤ p ∨ m ≤ q → Dc.1 g 114 (6 * p + q) = 0 := h.2.2.2.2.2.2.2.2.2.2.2.2.2.2.2.2.2.2.2.2.2.2.2.2.2.2.2.2.2.2.1
theorem tR.year {n g b nb : Nat} {Dc Dm : mz_D} {m d gs ins : Nat} (h : tR n g b nb Dc Dm m d gs ins) : yR m g b Dc Dm := h.2.2.2.2.2.2.2.2.2.2.2.2.2.2.2.2.2.2.2.2.2.2.2.2.2.2.2.2.2.2.2
theorem tR.mk {n g b nb : Nat} {Dc Dm : mz_D} {m d gs ins : Nat} (hm : m ≤ 6) (hd : d ≤ 16) (hgs : gs < 2 ^ m) (hins : ins < 2 ^ m) (many_c : Dc.1 g 101 0 = nI m) (many_m : Dm.1 0 201 b = nI m) (couples : Dm.1 0 201 (b + 1) = Dc.1 g 101 1) (dish_c : Dc.1 g 109 0 = nI d) (dish_m : Dm.1 0 201 (b + 2) = nI d) (split : Dm.1 0 201 (b + 3) = Dc.1 g 109 1) (split_b : Dc.1 g 109 1 = 0 ∨ Dc.1 g 109 1 = 1 ∨ Dc.1 g 109 1 = 2) (law : Dm.1 0 201 (b + 4) = Dc.1 g 100 5) (law_b : Dc.1 g 100 5 = 0 ∨ Dc.1 g 100 5 = 1 ∨ Dc.1 g 100 5 = 2 ∨ Dc.1 g 100 5 = 3) (rounds : Dm.1 0 201 (b + 5) = Dc.1 g 117 1) (gifts : Dm.1 0 201 (b + 6) = Dc.1 g 100 6) (guests_c : Dc.1 g 101 2 = nI gs) (guests_m : Dm.1 0 201 (b + 7) = nI gs) (in_c : Dc.1 g 117 0 = nI ins) (in_m : Dm.1 0 201 (b + 8) = nI ins) (names : ∀ p, p < m → nmR (Dc.2 g 102 p) (Dm.2 0 202 (nb + p))) (insists : ∀ p, p < m → Dm.1 0 201 (b + 12 + 8 * p) = Dc.1 g 103 p ∧ bd (Dc.1 g 103 p) 0 16) (quick : ∀ p, p < m → Dm.1 0 201 (b + 13 + 8 * p) = Dc.1 g 104 p ∧ bd (Dc.1 g 104 p) 0 20) (minds : ∀ p, p < m → Dm.1 0 201 (b + 14 + 8 * p) = Dc.1 g 105 p ∧ bd (Dc.1 g 105 p) 0 99) (means : ∀ p, p < m → Dm.1 0 201 (b + 15 + 8 * p) = Dc.1 g 106 p ∧ bd (Dc.1 g 106 p) 0 999) (partner : ∀ p, p < m → Dm.1 0 201 (b + 16 + 8 * p) = Dc.1 g 107 p ∧ who (Dc.1 g 107 p) m) (paid : ∀ p, p < m → Dm.1 0 201 (b + 17 + 8 * p) = Dc.1 g 108 p ∧ bd (Dc.1 g 108 p) 0 (301 * n)) (ahead : ∀ p, p < m → Dm.1 0 201 (b + 18 + 8 * p) - Dm.1 0 201 (b + 19 + 8 * p) = Dc.1 g 118 p) (price : ∀ k, k < d → Dm.1 0 201 (b + 60 + 2 * k) = Dc.1 g 110 k ∧ bd (Dc.1 g 110 k) 1 999) (eater : ∀ k, k < d → Dm.1 0 201 (b + 61 + 2 * k) = Dc.1 g 111 k ∧ who (Dc.1 g 111 k) m) (debt : ∀ k, k < 36 → Dm.1 0 201 (b + 92 + k) = Dc.1 g 114 k ∧ bd (Dc.1 g 114 k) 0 999999) (nodebt : ∀ p q, p < 6 → q < 6 → m ≤ p ∨ m ≤ q → Dc.1 g 114 (6 * p + q) = 0) (year : yR m g b Dc Dm) : tR n g b nb Dc Dm m d gs ins :=
  ⟨hm, hd, hgs, hins, many_c, many_m, couples, dish_c, dish_m, split, split_b, law, law_b, rounds, gifts, guests_c, guests_m, in_c, in_m, names, insists, quick, minds, means, partner, paid, ahead, price, eater, debt, nodebt, year⟩
/-- a tray -/
def trR (t : Nat) (Dc Dm : mz_D) : Prop :=
  (Dc.1 0 5 t = -1 ∧ Dm.1 0 204 t = -1) ∨
  ∃ z, z ≤ 60 ∧ Dc.1 0 6 t = nI z ∧ Dm.1 0 204 t = nI z ∧ (Dc.1 0 5 t = 0 ∨ Dc.1 0 5 t = 1 ∨ Dc.1 0 5 t = 2 ∨ Dc.1 0 5 t = 3) ∧ Dm.1 0 203 t = Dc.1 0 5 t ∧ ∀ j, j < z → Dm.2 0 205 (60 * t + j) = Dc.2 0 7 (60 * t + j)
def iR (n : Nat) (Dc Dm : mz_D) : Prop :=
  (Dm.1 0 200 2 = Dc.1 0 0 13) ∧
  (Dm.2 0 200 3 = Dc.2 0 0 14) ∧
  (Dm.2 0 200 4 = Dc.2 0 0 15) ∧
  (Dm.1 0 200 16 = Dc.1 0 0 16) ∧
  (Dm.1 0 200 17 = Dc.1 0 0 17) ∧
  (∃ t, t ≤ 900 ∧ Dm.1 0 200 10 = nI t ∧ Dc.1 0 0 1 = nI t) ∧
  (∀ j, j < 900 → Dm.1 0 206 j = Dc.1 0 1 j ∧ bd (Dc.1 0 1 j) (-128) 127) ∧
  (∀ t, t < 4 → trR t Dc Dm) ∧
  (Dm.1 0 200 33 = Dc.1 0 0 10) ∧
  (∀ k, k < 5 → Dm.1 0 214 k = Dc.1 0 13 k) ∧
  (Dc.2 0 3 = cz_DK.2 0 3) ∧
  (∃ m d gs ins, tR n 1 0 0 Dc Dm m d gs ins) ∧
  (∃ mk, mk ≤ 3 ∧ Dm.1 0 200 34 = nI mk ∧ Dc.1 0 0 7 = nI mk ∧ ∀ i, i < mk → ∃ m d gs ins, tR n (3 + i) (500 * (i + 1)) (6 * (i + 1)) Dc Dm m d gs ins)
theorem iR.status {n : Nat} {Dc Dm : mz_D} (h : iR n Dc Dm) : Dm.1 0 200 2 = Dc.1 0 0 13 := h.1
theorem iR.top {n : Nat} {Dc Dm : mz_D} (h : iR n Dc Dm) : Dm.2 0 200 3 = Dc.2 0 0 14 := h.2.1
theorem iR.bottom {n : Nat} {Dc Dm : mz_D} (h : iR n Dc Dm) : Dm.2 0 200 4 = Dc.2 0 0 15 := h.2.2.1
theorem iR.fk {n : Nat} {Dc Dm : mz_D} (h : iR n Dc Dm) : Dm.1 0 200 16 = Dc.1 0 0 16 := h.2.2.2.1
theorem iR.fp {n : Nat} {Dc Dm : mz_D} (h : iR n Dc Dm) : Dm.1 0 200 17 = Dc.1 0 0 17 := h.2.2.2.2.1
theorem iR.taped {n : Nat} {Dc Dm : mz_D} (h : iR n Dc Dm) : ∃ t, t ≤ 900 ∧ Dm.1 0 200 10 = nI t ∧ Dc.1 0 0 1 = nI t := h.2.2.2.2.2.1
theorem iR.tape {n : Nat} {Dc Dm : mz_D} (h : iR n Dc Dm) : ∀ j, j < 900 → Dm.1 0 206 j = Dc.1 0 1 j ∧ bd (Dc.1 0 1 j) (-128) 127 := h.2.2.2.2.2.2.1
theorem iR.trays {n : Nat} {Dc Dm : mz_D} (h : iR n Dc Dm) : ∀ t, t < 4 → trR t Dc Dm := h.2.2.2.2.2.2.2.1
theorem iR.lived {n : Nat} {Dc Dm : mz_D} (h : iR n Dc Dm) : Dm.1 0 200 33 = Dc.1 0 0 10 := h.2.2.2.2.2.2.2.2.1
theorem iR.told {n : Nat} {Dc Dm : mz_D} (h : iR n Dc Dm) : ∀ k, k < 5 → Dm.1 0 214 k = Dc.1 0 13 k := h.2.2.2.2.2.2.2.2.2.1
theorem iR.keys {n : Nat} {Dc Dm : mz_D} (h : iR n Dc Dm) : Dc.2 0 3 = cz_DK.2 0 3 := h.2.2.2.2.2.2.2.2.2.2.1
theorem iR.table {n : Nat} {Dc Dm : mz_D} (h : iR n Dc Dm) : ∃ m d gs ins, tR n 1 0 0 Dc Dm m d gs ins := h.2.2.2.2.2.2.2.2.2.2.2.1
theorem iR.marks {n : Nat} {Dc Dm : mz_D} (h : iR n Dc Dm) : ∃ mk, mk ≤ 3 ∧ Dm.1 0 200 34 = nI mk ∧ Dc.1 0 0 7 = nI mk ∧ ∀ i, i < mk → ∃ m d gs ins, tR n (3 + i) (500 * (i + 1)) (6 * (i + 1)) Dc Dm m d gs ins := h.2.2.2.2.2.2.2.2.2.2.2.2
theorem iR.mk {n : Nat} {Dc Dm : mz_D} (status : Dm.1 0 200 2 = Dc.1 0 0 13) (top : Dm.2 0 200 3 = Dc.2 0 0 14) (bottom : Dm.2 0 200 4 = Dc.2 0 0 15) (fk : Dm.1 0 200 16 = Dc.1 0 0 16) (fp : Dm.1 0 200 17 = Dc.1 0 0 17) (taped : ∃ t, t ≤ 900 ∧ Dm.1 0 200 10 = nI t ∧ Dc.1 0 0 1 = nI t) (tape : ∀ j, j < 900 → Dm.1 0 206 j = Dc.1 0 1 j ∧ bd (Dc.1 0 1 j) (-128) 127) (trays : ∀ t, t < 4 → trR t Dc Dm) (lived : Dm.1 0 200 33 = Dc.1 0 0 10) (told : ∀ k, k < 5 → Dm.1 0 214 k = Dc.1 0 13 k) (keys : Dc.2 0 3 = cz_DK.2 0 3) (table : ∃ m d gs ins, tR n 1 0 0 Dc Dm m d gs ins) (marks : ∃ mk, mk ≤ 3 ∧ Dm.1 0 200 34 = nI mk ∧ Dc.1 0 0 7 = nI mk ∧ ∀ i, i < mk → ∃ m d gs ins, tR n (3 + i) (500 * (i + 1)) (6 * (i + 1)) Dc Dm m d gs ins) : iR n Dc Dm :=
  ⟨status, top, bottom, fk, fp, taped, tape, trays, lived, told, keys, table, marks⟩
def Inv (n : Nat) (D : mz_D) : Prop := iR n D D
/-! what may change and is seen by nobody -/
def sCq (g o j : Nat) : Prop := (g = 2 ∧ o < 200) ∨ o = 2 ∨ o = 9 ∨ o = 10 ∨ o = 11 ∨ o = 12 ∨ o = 14 ∨ o = 15 ∨ o = 112 ∨ o = 115 ∨ o = 116 ∨ (o = 109 ∧ 4 ≤ j) ∨ 300 ≤ o
def sMq (g o j : Nat) : Prop := (o = 200 ∧ j ≠ 2 ∧ j ≠ 3 ∧ j ≠ 4 ∧ j ≠ 10 ∧ j ≠ 16 ∧ j ≠ 17 ∧ j ≠ 33 ∧ j ≠ 34) ∨ (o = 201 ∧ 2000 ≤ j) ∨ (o = 202 ∧ 24 ≤ j) ∨ (207 ≤ o ∧ o ≤ 213)
def sC (D E : mz_D) : Prop := ∀ g o j, ¬ sCq g o j → E.1 g o j = D.1 g o j ∧ E.2 g o j = D.2 g o j
def sM (D E : mz_D) : Prop := ∀ g o j, ¬ sMq g o j → E.1 g o j = D.1 g o j ∧ E.2 g o j = D.2 g o j
/-- the reference's cells -/
def eM (D E : mz_D) : Prop := ∀ g o j, 200 ≤ o → o < 300 → E.1 g o j = D.1 g o j ∧ E.2 g o j = D.2 g o j
/-- the class's cells -/
def eC (D E : mz_D) : Prop := ∀ g o j, o < 200 → E.1 g o j = D.1 g o j ∧ E.2 g o j = D.2 g o j
theorem sC.rf {D : mz_D} : sC D D := fun _ _ _ _ => ⟨rfl, rfl⟩
theorem sM.rf {D : mz_D} : sM D D := fun _ _ _ _ => ⟨rfl, rfl⟩
theorem eM.rf {D : mz_D} : eM D D := fun _ _ _ _ _ => ⟨rfl, rfl⟩
theorem eC.rf {D : mz_D} : eC D D := fun _ _ _ _ => ⟨rfl, rfl⟩
theorem sC.tr {D E F : mz_D} (h : sC D E) (k : sC E F) : sC D F := fun g o j hn => ⟨(k g o j hn).1.trans (h g o j hn).1, (k g o j hn).2.trans (h g o j hn).2⟩
theorem sM.tr {D E F : mz_D} (h : sM D E) (k : sM E F) : sM D F := fun g o j hn => ⟨(k g o j hn).1.trans (h g o j hn).1, (k g o j hn).2.trans (h g o j hn).2⟩
theorem eM.tr {D E F : mz_D} (h : eM D E) (k : eM E F) : eM D F := fun g o j h1 h2 => ⟨(k g o j h1 h2).1.trans (h g o j h1 h2).1, (k g o j h1 h2).2.trans (h g o j h1 h2).2⟩
theorem eC.tr {D E F : mz_D} (h : eC D E) (k : eC E F) : eC D F := fun g o j h1 => ⟨(k g o j h1).1.trans (h g o j h1).1, (k g o j h1).2.trans (h g o j h1).2⟩
theorem sC.m {D E : mz_D} (h : sC D E) : eM D E := fun g o j h1 h2 => h g o j (by unfold sCq; omega)
theorem sM.c {D E : mz_D} (h : sM D E) : eC D E := fun g o j h1 => h g o j (by unfold sMq; omega)
theorem yF.congr {m : Nat} {w w' a a' : Nat → Int32} (h : yF m w a) (hw : ∀ o, 120 ≤ o → o ≤ 126 → w' o = w o) (ha : ∀ i, i < 6 → a' i = a i) : yF m w' a' := by
  unfold yF at h ⊢
  rw [hw 120 (by omega) (by omega), hw 122 (by omega) (by omega), hw 123 (by omega) (by omega), hw 125 (by omega) (by omega), ha 0 (by omega), ha 1 (by omega), ha 2 (by omega), ha 3 (by omega)]
  exact h
theorem yT.congr {m : Nat} {w w' a a' : Nat → Int32} (h : yT m w a) (hw : ∀ o, 120 ≤ o → o ≤ 126 → w' o = w o) (ha : ∀ i, i < 6 → a' i = a i) : yT m w' a' := by
  unfold yT at h ⊢
  rw [hw 120 (by omega) (by omega), hw 121 (by omega) (by omega), hw 122 (by omega) (by omega), hw 123 (by omega) (by omega), hw 124 (by omega) (by omega), hw 125 (by omega) (by omega), ha 0 (by omega), ha 1 (by omega), ha 2 (by omega), ha 3 (by omega), ha 5 (by omega)]
  exact h
theorem yB.congr {m N S : Nat} {w w' : Nat → Nat → Int32} {a a' : Nat → Nat → Int32} {c e : Nat → Nat} {enc : Nat → List Nat} (h : yB m N S w a c e enc) (hw : ∀ o k, 120 ≤ o → o ≤ 126 → w' o k = w o k) (ha : ∀ k i, k < N → i < 6 → a' k i = a k i) : yB m N S w' a' c e enc := yB.mk
  (hN := h.hN)
  (hS := h.hS)
  (c0 := h.c0)
  (cN := h.cN)
  (e0 := h.e0)
  (eN := h.eN)
  (le3 := h.le3)
  (ein := fun k hk o ho => by
    obtain ⟨h1, h2, h3, h4, h5⟩ := h.ein k hk o ho
    exact ⟨h1, h2, h3, by rw [ha o 0 (by omega) (by omega)]; exact h4, by rw [hw _ _ (by omega) (by omega)]; exact h5⟩)
  (row := fun k hk => by
    rcases h.row k hk with ⟨h1, h2, h3⟩ | ⟨h1, h2, h3, h4, h5, h6⟩ | ⟨h1, h2, h3, h4, h5, h6, h7, h8⟩ | ⟨h1, h2, o, h3, h4, h5⟩
    · exact Or.inl ⟨h1, h2, h3.congr (fun o h1 h2 => hw o _ h1 h2) (fun i hi => ha k i hk hi)⟩
    · exact Or.inr (Or.inl ⟨h1, h2, by rw [ha k 0 hk (by omega)]; exact h3, by rw [hw _ _ (by omega) (by omega)]; exact h4, by rw [hw _ _ (by omega) (by omega), ha k 1 hk (by omega)]; exact h5, by rw [ha k 1 hk (by omega)]; exact h6⟩)
    · exact Or.inr (Or.inr (Or.inl ⟨h1, h2, h3.congr (fun o h1 h2 => hw o _ h1 h2) (fun i hi => ha k i hk hi), h4, h5, by rw [ha k 4 hk (by omega)]; exact h6, by rw [hw _ _ (by omega) (by omega)]; exact h7, h8⟩))
    · refine Or.inr (Or.inr (Or.inr ⟨h1, by rw [ha k 0 hk (by omega)]; exact h2, o, h3, by rw [ha k 4 hk (by omega)]; exact h4, ?_⟩))
      rw [ha o 0 (by omega) (by omega)]
      exact h5)
theorem yR.congr {m g b : Nat} {Dc Dm Dc' Dm' : mz_D} (h : yR m g b Dc Dm) (hc : ∀ o j, 119 ≤ o → o ≤ 126 → Dc'.1 g o j = Dc.1 g o j) (h9 : Dm'.1 0 201 (b + 9) = Dm.1 0 201 (b + 9)) (hm : ∀ j, 130 ≤ j → j < 490 → Dm'.1 0 201 (b + j) = Dm.1 0 201 (b + j)) : yR m g b Dc' Dm' := by
  unfold yR at h ⊢
  rw [hc 119 0 (by omega) (by omega), hc 119 1 (by omega) (by omega), h9]
  rcases h with h | ⟨h1, N, S, c, e, enc, h2, h3, h4⟩
  · exact Or.inl h
  · refine Or.inr ⟨h1, N, S, c, e, enc, h2, h3, h4.congr (fun o k ho1 ho2 => hc o k (by omega) ho2) (fun k i hk hi => ?_)⟩
    have hN := h4.hN
    have := hm (130 + 6 * k + i) (by omega) (by omega)
    simp only [Nat.add_assoc] at this ⊢
    exact this
/-- a table's cells, as the class has them -/
def tq (o j : Nat) : Prop := 100 ≤ o ∧ o < 127 ∧ o ≠ 112 ∧ o ≠ 115 ∧ o ≠ 116 ∧ (o = 109 → j < 4)
theorem tR.congr {n g b nb : Nat} {Dc Dm Dc' Dm' : mz_D} {m d gs ins : Nat} (h : tR n g b nb Dc Dm m d gs ins) (hc : ∀ o j, tq o j → Dc'.1 g o j = Dc.1 g o j ∧ Dc'.2 g o j = Dc.2 g o j) (hm : ∀ j, j < 500 → Dm'.1 0 201 (b + j) = Dm.1 0 201 (b + j)) (hn : ∀ p, p < 6 → Dm'.2 0 202 (nb + p) = Dm.2 0 202 (nb + p)) : tR n g b nb Dc' Dm' m d gs ins := by
  have C : ∀ o j, tq o j → Dc'.1 g o j = Dc.1 g o j := fun o j h => (hc o j h).1
  have C2 : ∀ o j, tq o j → Dc'.2 g o j = Dc.2 g o j := fun o j h => (hc o j h).2
  have M : ∀ k j, k = b + j → j < 500 → Dm'.1 0 201 k = Dm.1 0 201 k := fun k j e hj => by rw [e]; exact hm j hj
  have hm6 := h.hm
  have hd6 := h.hd
  exact tR.mk
    (hm := h.hm) (hd := h.hd) (hgs := h.hgs) (hins := h.hins)
    (many_c := by rw [C _ _ (by unfold tq; omega)]; exact h.many_c)
    (many_m := by rw [M b 0 (by omega) (by omega)]; exact h.many_m)
    (couples := by rw [C _ _ (by unfold tq; omega), M _ 1 (by omega) (by omega)]; exact h.couples)
    (dish_c := by rw [C _ _ (by unfold tq; omega)]; exact h.dish_c)
    (dish_m := by rw [M _ 2 (by omega) (by omega)]; exact h.dish_m)
    (split := by rw [C _ _ (by unfold tq; omega), M _ 3 (by omega) (by omega)]; exact h.split)
    (split_b := by rw [C _ _ (by unfold tq; omega)]; exact h.split_b)
    (law := by rw [C _ _ (by unfold tq; omega), M _ 4 (by omega) (by omega)]; exact h.law)
    (law_b := by rw [C _ _ (by unfold tq; omega)]; exact h.law_b)
    (rounds := by rw [C _ _ (by unfold tq; omega), M _ 5 (by omega) (by omega)]; exact h.rounds)
    (gifts := by rw [C _ _ (by unfold tq; omega), M _ 6 (by omega) (by omega)]; exact h.gifts)
    (guests_c := by rw [C _ _ (by unfold tq; omega)]; exact h.guests_c)
    (guests_m := by rw [M _ 7 (by omega) (by omega)]; exact h.guests_m)
    (in_c := by rw [C _ _ (by unfold tq; omega)]; exact h.in_c)
    (in_m := by rw [M _ 8 (by omega) (by omega)]; exact h.in_m)
    (names := fun p hp => by rw [C2 _ _ (by unfold tq; omega), hn p (by omega)]; exact h.names p hp)
    (insists := fun p hp => by rw [C _ _ (by unfold tq; omega), M _ (12 + 8 * p) (by omega) (by omega)]; exact h.insists p hp)
    (quick := fun p hp => by rw [C _ _ (by unfold tq; omega), M _ (13 + 8 * p) (by omega) (by omega)]; exact h.quick p hp)
    (minds := fun p hp => by rw [C _ _ (by unfold tq; omega), M _ (14 + 8 * p) (by omega) (by omega)]; exact h.minds p hp)
    (means := fun p hp => by rw [C _ _ (by unfold tq; omega), M _ (15 + 8 * p) (by omega) (by omega)]; exact h.means p hp)
    (partner := fun p hp => by rw [C _ _ (by unfold tq; omega), M _ (16 + 8 * p) (by omega) (by omega)]; exact h.partner p hp)
    (paid := fun p hp => by rw [C _ _ (by unfold tq; omega), M _ (17 + 8 * p) (by omega) (by omega)]; exact h.paid p hp)
    (ahead := fun p hp => by rw [C _ _ (by unfold tq; omega), M (b + 18 + 8 * p) (18 + 8 * p) (by omega) (by omega), M (b + 19 + 8 * p) (19 + 8 * p) (by omega) (by omega)]; exact h.ahead p hp)
    (price := fun k hk => by rw [C _ _ (by unfold tq; omega), M _ (60 + 2 * k) (by omega) (by omega)]; exact h.price k hk)
    (eater := fun k hk => by rw [C _ _ (by unfold tq; omega), M _ (61 + 2 * k) (by omega) (by omega)]; exact h.eater k hk)
    (debt := fun k hk => by rw [C _ _ (by unfold tq; omega), M _ (92 + k) (by omega) (by omega)]; exact h.debt k hk)
    (nodebt := fun p q hp hq hh => by rw [C _ _ (by unfold tq; omega)]; exact h.nodebt p q hp hq hh)
    (year := h.year.congr (fun o j h1 h2 => C _ _ (by unfold tq; omega)) (hm 9 (by omega)) (fun j h1 h2 => hm j (by omega)))
theorem tR.mono {n n' g b nb : Nat} {Dc Dm : mz_D} {m d gs ins : Nat} (h : tR n g b nb Dc Dm m d gs ins) (hn : n ≤ n') : tR n' g b nb Dc Dm m d gs ins :=
  tR.mk (hm := h.hm) (hd := h.hd) (hgs := h.hgs) (hins := h.hins) (many_c := h.many_c) (many_m := h.many_m) (couples := h.couples) (dish_c := h.dish_c) (dish_m := h.dish_m) (split := h.split) (split_b := h.split_b) (law := h.law) (law_b := h.law_b) (rounds := h.rounds) (gifts := h.gifts) (guests_c := h.guests_c) (guests_m := h.guests_m) (in_c := h.in_c) (in_m := h.in_m) (names := h.names) (insists := h.insists) (quick := h.quick) (minds := h.minds) (means := h.means) (partner := h.partner) (paid := fun p hp => ⟨(h.paid p hp).1, (h.paid p hp).2.1, by have := (h.paid p hp).2.2; omega⟩) (ahead := h.ahead) (price := h.price) (eater := h.eater) (debt := h.debt) (nodebt := h.nodebt) (year := h.year)
theorem trR.congr {t : Nat} {Dc Dm Dc' Dm' : mz_D} (ht : t < 4) (h : trR t Dc Dm) (hc : ∀ o j, 5 ≤ o → o ≤ 7 → Dc'.1 0 o j = Dc.1 0 o j ∧ Dc'.2 0 o j = Dc.2 0 o j) (hm : ∀ o j, 203 ≤ o → o ≤ 205 → Dm'.1 0 o j = Dm.1 0 o j ∧ Dm'.2 0 o j = Dm.2 0 o j) : trR t Dc' Dm' := by
  unfold trR at h ⊢
  rw [(hc 5 t (by omega) (by omega)).1, (hc 6 t (by omega) (by omega)).1, (hm 203 t (by omega) (by omega)).1, (hm 204 t (by omega) (by omega)).1]
  rcases h with h | ⟨z, h1, h2, h3, h4, h5, h6⟩
  · exact Or.inl h
  · exact Or.inr ⟨z, h1, h2, h3, h4, h5, fun j hj => by rw [(hc 7 _ (by omega) (by omega)).2, (hm 205 _ (by omega) (by omega)).2]; exact h6 j hj⟩
/-- all but the table, the status and what else a call may change -/
theorem iR.congr {n : Nat} {Dc Dm Dc' Dm' : mz_D} (h : iR n Dc Dm) (hc : sC Dc Dc') (hm : sM Dm Dm') : iR n Dc' Dm' := iR.mk
  (status := by rw [(hc _ _ _ (by unfold sCq; omega)).1, (hm _ _ _ (by unfold sMq; omega)).1]; exact h.status)
  (top := by rw [(hc _ _ _ (by unfold sCq; omega)).2, (hm _ _ _ (by unfold sMq; omega)).2]; exact h.top)
  (bottom := by rw [(hc _ _ _ (by unfold sCq; omega)).2, (hm _ _ _ (by unfold sMq; omega)).2]; exact h.bottom)
  (fk := by rw [(hc _ _ _ (by unfold sCq; omega)).1, (hm _ _ _ (by unfold sMq; omega)).1]; exact h.fk)
  (fp := by rw [(hc _ _ _ (by unfold sCq; omega)).1, (hm _ _ _ (by unfold sMq; omega)).1]; exact h.fp)
  (taped := by rw [(hc _ _ _ (by unfold sCq; omega)).1, (hm _ _ _ (by unfold sMq; omega)).1]; exact h.taped)
  (tape := fun j hj => by rw [(hc _ _ _ (by unfold sCq; omega)).1, (hm _ _ _ (by unfold sMq; omega)).1]; exact h.tape j hj)
  (trays := fun t ht => (h.trays t ht).congr ht (fun o j h1 h2 => hc _ _ _ (by unfold sCq; omega)) (fun o j h1 h2 => hm _ _ _ (by unfold sMq; omega)))
  (lived := by rw [(hc _ _ _ (by unfold sCq; omega)).1, (hm _ _ _ (by unfold sMq; omega)).1]; exact h.lived)
  (told := fun j hj => by rw [(hc _ _ _ (by unfold sCq; omega)).1, (hm _ _ _ (by unfold sMq; omega)).1]; exact h.told j hj)
  (keys := by
    rw [← h.keys]
    funext j
    exact (hc _ _ _ (by unfold sCq; omega)).2)
  (table := by
    obtain ⟨m, d, gs, ins, ht⟩ := h.table
    exact ⟨m, d, gs, ins, ht.congr (fun o j hq => hc _ _ _ (by unfold tq at hq; unfold sCq; omega)) (fun j hj => (hm _ _ _ (by unfold sMq; omega)).1) (fun p hp => (hm _ _ _ (by unfold sMq; omega)).2)⟩)
  (marks := by
    obtain ⟨mk, h1, h2, h3, h4⟩ := h.marks
    refine ⟨mk, h1, by rw [(hm _ _ _ (by unfold sMq; omega)).1]; exact h2, by rw [(hc _ _ _ (by unfold sCq; omega)).1]; exact h3, fun i hi => ?_⟩
    obtain ⟨m, d, gs, ins, ht⟩ := h4 i hi
    exact ⟨m, d, gs, ins, ht.congr (fun o j hq => hc _ _ _ (by unfold tq at hq; unfold sCq; omega)) (fun j hj => (hm _ _ _ (by unfold sMq; omega)).1) (fun p hp => (hm _ _ _ (by unfold sMq; omega)).2)⟩)
theorem iR.mono {n n' : Nat} {Dc Dm : mz_D} (h : iR n Dc Dm) (hn : n ≤ n') : iR n' Dc Dm :=
  iR.mk (status := h.status) (top := h.top) (bottom := h.bottom) (fk := h.fk) (fp := h.fp) (taped := h.taped) (tape := h.tape) (trays := h.trays) (lived := h.lived) (told := h.told) (keys := h.keys) (table := by obtain ⟨m, d, gs, ins, ht⟩ := h.table; exact ⟨m, d, gs, ins, ht.mono hn⟩) (marks := by
      obtain ⟨mk, h1, h2, h3, h4⟩ := h.marks
      exact ⟨mk, h1, h2, h3, fun i hi => by obtain ⟨m, d, gs, ins, ht⟩ := h4 i hi; exact ⟨m, d, gs, ins, ht.mono hn⟩⟩)
/-- the class's side may be read of another memory -/
theorem iR.cells {n : Nat} {Dc Dm Dc' Dm' : mz_D} (h : iR n Dc Dm) (hc : eC Dc Dc') (hm : eM Dm Dm') : iR n Dc' Dm' := iR.mk
  (status := by rw [(hc _ _ _ (by omega)).1, (hm _ _ _ (by omega) (by omega)).1]; exact h.status)
  (top := by rw [(hc _ _ _ (by omega)).2, (hm _ _ _ (by omega) (by omega)).2]; exact h.top)
  (bottom := by rw [(hc _ _ _ (by omega)).2, (hm _ _ _ (by omega) (by omega)).2]; exact h.bottom)
  (fk := by rw [(hc _ _ _ (by omega)).1, (hm _ _ _ (by omega) (by omega)).1]; exact h.fk)
  (fp := by rw [(hc _ _ _ (by omega)).1, (hm _ _ _ (by omega) (by omega)).1]; exact h.fp)
  (taped := by rw [(hc _ _ _ (by omega)).1, (hm _ _ _ (by omega) (by omega)).1]; exact h.taped)
  (tape := fun j hj => by rw [(hc _ _ _ (by omega)).1, (hm _ _ _ (by omega) (by omega)).1]; exact h.tape j hj)
  (trays := fun t ht => (h.trays t ht).congr ht (fun o j h1 h2 => hc _ _ _ (by omega)) (fun o j h1 h2 => hm _ _ _ (by omega) (by omega)))
  (lived := by rw [(hc _ _ _ (by omega)).1, (hm _ _ _ (by omega) (by omega)).1]; exact h.lived)
  (told := fun j hj => by rw [(hc _ _ _ (by omega)).1, (hm _ _ _ (by omega) (by omega)).1]; exact h.told j hj)
  (keys := by
    rw [← h.keys]
    funext j
    exact (hc _ _ _ (by omega)).2)
  (table := by
    obtain ⟨m, d, gs, ins, ht⟩ := h.table
    exact ⟨m, d, gs, ins, ht.congr (fun o j hq => hc _ _ _ (by unfold tq at hq; omega)) (fun j hj => (hm _ _ _ (by omega) (by omega)).1) (fun p hp => (hm _ _ _ (by omega) (by omega)).2)⟩)
  (marks := by
    obtain ⟨mk, h1, h2, h3, h4⟩ := h.marks
    refine ⟨mk, h1, by rw [(hm _ _ _ (by omega) (by omega)).1]; exact h2, by rw [(hc _ _ _ (by omega)).1]; exact h3, fun i hi => ?_⟩
    obtain ⟨m, d, gs, ins, ht⟩ := h4 i hi
    exact ⟨m, d, gs, ins, ht.congr (fun o j hq => hc _ _ _ (by unfold tq at hq; omega)) (fun j hj => (hm _ _ _ (by omega) (by omega)).1) (fun p hp => (hm _ _ _ (by omega) (by omega)).2)⟩)
theorem iR.stat {n : Nat} {Dc Dm : mz_D} (h : iR n Dc Dm) (v : Int32) : iR n (mz_wi Dc 0 0 13 v) (mz_wi Dm 0 200 2 v) := by
  have hc : ∀ g o j, ¬ (o = 0 ∧ j = 13) → (mz_wi Dc 0 0 13 v).1 g o j = Dc.1 g o j := fun g o j hn => by rw [wi_1, if_neg (by omega)]
  have hm : ∀ g o j, ¬ (o = 200 ∧ j = 2) → (mz_wi Dm 0 200 2 v).1 g o j = Dm.1 g o j := fun g o j hn => by rw [wi_1, if_neg (by omega)]
  exact iR.mk
    (status := by rw [wi_1, wi_1, if_pos ⟨rfl, rfl, rfl⟩, if_pos ⟨rfl, rfl, rfl⟩])
    (top := h.top)
    (bottom := h.bottom)
    (fk := by rw [hc _ _ _ (by omega), hm _ _ _ (by omega)]; exact h.fk)
    (fp := by rw [hc _ _ _ (by omega), hm _ _ _ (by omega)]; exact h.fp)
    (taped := by rw [hc _ _ _ (by omega), hm _ _ _ (by omega)]; exact h.taped)
    (tape := fun j hj => by rw [hc _ _ _ (by omega), hm _ _ _ (by omega)]; exact h.tape j hj)
    (trays := fun t ht => (h.trays t ht).congr ht (fun o j h1 h2 => ⟨hc _ _ _ (by omega), rfl⟩) (fun o j h1 h2 => ⟨hm _ _ _ (by omega), rfl⟩))
    (lived := by rw [hc _ _ _ (by omega), hm _ _ _ (by omega)]; exact h.lived)
    (told := fun j hj => by rw [hc _ _ _ (by omega), hm _ _ _ (by omega)]; exact h.told j hj)
    (keys := h.keys)
    (table := by
      obtain ⟨m, d, gs, ins, ht⟩ := h.table
      exact ⟨m, d, gs, ins, ht.congr (fun o j hq => ⟨hc _ _ _ (by unfold tq at hq; omega), rfl⟩) (fun j hj => hm _ _ _ (by omega)) (fun p hp => rfl)⟩)
    (marks := by
      obtain ⟨mk, h1, h2, h3, h4⟩ := h.marks
      refine ⟨mk, h1, by rw [hm _ _ _ (by omega)]; exact h2, by rw [hc _ _ _ (by omega)]; exact h3, fun i hi => ?_⟩
      obtain ⟨m, d, gs, ins, ht⟩ := h4 i hi
      exact ⟨m, d, gs, ins, ht.congr (fun o j hq => ⟨hc _ _ _ (by unfold tq at hq; omega), rfl⟩) (fun j hj => hm _ _ _ (by omega)) (fun p hp => rfl)⟩)
