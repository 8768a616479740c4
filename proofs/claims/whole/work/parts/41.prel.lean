/-! ===== the language of parishes: what a text says ===== -/
/-- a step: what, sign, number (what 6 not, 7 and, 8 or) -/
abbrev pg_St : Type := Nat × Nat × Nat
/-- whether all went well, the place, the steps -/
abbrev pg_R : Type := Bool × Nat × List pg_St
/-- a text: its signs and how many -/
abbrev pg_T : Type := (Nat → Nat) × Nat
/-- the sign at a place; 200 at the end -/
def pg_c (t : pg_T) (p : Nat) : Nat := if p < t.2 then t.1 p else 200
def pg_dig (c : Nat) : Bool := decide (48 ≤ c) && decide (c ≤ 57)
/-- a number from a place: whether, the place behind, the number -/
def pg_num (t : pg_T) (p : Nat) : Bool × Nat × Nat :=
  if pg_dig (pg_c t p) then
    if pg_dig (pg_c t (p + 1)) then (true, p + 2, (pg_c t p - 48) * 10 + (pg_c t (p + 1) - 48)) else (true, p + 1, pg_c t p - 48)
  else (false, p, 0)
def pg_what (c : Nat) : Nat := if c = 112 then 0 else if c = 107 then 1 else if c = 118 then 2 else if c = 108 then 3 else if c = 121 then 4 else if c = 100 then 5 else 6
def pg_test (t : pg_T) (p : Nat) : pg_R :=
  if pg_what (pg_c t p) = 6 then (false, p, [])
  else if pg_c t (p + 1) = 60 ∨ pg_c t (p + 1) = 61 ∨ pg_c t (p + 1) = 62 then
    ((pg_num t (p + 2)).1, (pg_num t (p + 2)).2.1, [(pg_what (pg_c t p), pg_c t (p + 1), (pg_num t (p + 2)).2.2)])
  else (false, p + 1, [])
/-- what is joined by a sign, one behind the other -/
def pg_join (t : pg_T) (sg op : Nat) (F : Nat → pg_R) : Nat → pg_R → pg_R
  | 0, r => r
  | f + 1, r => if r.1 = true ∧ pg_c t r.2.1 = sg then pg_join t sg op F f ((F (r.2.1 + 1)).1, (F (r.2.1 + 1)).2.1, r.2.2 ++ (F (r.2.1 + 1)).2.2 ++ [(op, 0, 0)]) else r
def pg_both (t : pg_T) (F : Nat → pg_R) (p : Nat) : pg_R := pg_join t 38 7 F 101 (F p)
def pg_any (t : pg_T) (F : Nat → pg_R) (p : Nat) : pg_R := pg_join t 124 8 (pg_both t F) 101 (pg_both t F p)
/-- a part, within so many more ( and ! -/
def pg_part (t : pg_T) : Nat → Nat → pg_R
  | 0, p => if pg_c t p = 33 ∨ pg_c t p = 40 then (false, p, []) else pg_test t p
  | k + 1, p =>
    if pg_c t p = 33 then ((pg_part t k (p + 1)).1, (pg_part t k (p + 1)).2.1, (pg_part t k (p + 1)).2.2 ++ [(6, 0, 0)])
    else if pg_c t p = 40 then
      if (pg_any t (pg_part t k) (p + 1)).1 = true ∧ pg_c t (pg_any t (pg_part t k) (p + 1)).2.1 = 41 then (true, (pg_any t (pg_part t k) (p + 1)).2.1 + 1, (pg_any t (pg_part t k) (p + 1)).2.2)
      else (false, (pg_any t (pg_part t k) (p + 1)).2.1, (pg_any t (pg_part t k) (p + 1)).2.2)
    else pg_test t p
/-- a word from a place -/
def pg_word (t : pg_T) : List Nat → Nat → Bool × Nat
  | [], p => (true, p)
  | c :: l, p => if pg_c t p = c then pg_word t l (p + 1) else (false, p)
/-- a clause: whether, the place, and what it says: a fall, or what it adds by which steps -/
abbrev pg_Cl : Type := Nat ⊕ (Int32 × List pg_St)
abbrev pg_C : Type := Bool × Nat × Option pg_Cl
def pg_more : List Nat := [109, 111, 114, 101, 32]
def pg_less : List Nat := [108, 101, 115, 115, 32]
def pg_yard : List Nat := [121, 97, 114, 100, 32]
def pg_lead (t : pg_T) (p : Nat) : List Nat := if pg_c t p = 121 then pg_yard else if pg_c t p = 108 then pg_less else pg_more
def pg_clause (t : pg_T) (p : Nat) : pg_C :=
  let wd := pg_word t (pg_lead t p) p
  if wd.1 = true then
    let nm := pg_num t wd.2
    if nm.1 = true then
      if pg_c t p = 121 then (true, nm.2.1, some (.inl nm.2.2))
      else if pg_c t nm.2.1 = 32 then
        let e := pg_any t (pg_part t 4) (nm.2.1 + 1)
        (e.1, e.2.1, some (.inr (if pg_c t p = 108 then -nI nm.2.2 else nI nm.2.2, e.2.2)))
      else (false, nm.2.1, none)
    else (false, nm.2.1, none)
  else (false, wd.2, none)
/-- clauses, one behind the other: whether, the place, the clauses -/
def pg_cls (t : pg_T) : Nat → Nat → Bool × Nat × List pg_Cl
  | 0, p => (false, p, [])
  | f + 1, p =>
    let c := pg_clause t p
    if c.1 = true then
      if f ≠ 0 ∧ pg_c t c.2.1 = 59 then
        let r := pg_cls t f (c.2.1 + 1)
        (r.1, r.2.1, c.2.2.toList ++ r.2.2)
      else (true, c.2.1, c.2.2.toList)
    else (false, c.2.1, c.2.2.toList)
def pg_all (t : pg_T) : Bool × Nat × List pg_Cl :=
  let r := pg_cls t 10 0
  (r.1 && decide (r.2.1 = t.2), r.2.1, r.2.2)
/-! what the steps say of facts -/
def pg_ts (f : Nat → Int32) (s : pg_St) : Bool := if s.2.1 = 60 then decide (f s.1 < nI s.2.2) else if s.2.1 = 62 then decide (nI s.2.2 < f s.1) else decide (f s.1 = nI s.2.2)
def pg_run (f : Nat → Int32) : List pg_St → List Bool → List Bool
  | [], st => st
  | s :: l, st => pg_run f l (if s.1 = 6 then (match st with | a :: r => (!a) :: r | [] => []) else if s.1 = 7 then (match st with | a :: b :: r => (b && a) :: r | r => r) else if s.1 = 8 then (match st with | a :: b :: r => (b || a) :: r | r => r) else pg_ts f s :: st)
def pg_says (f : Nat → Int32) (l : List pg_St) : Bool := (pg_run f l []).headD false
/-- the sum without the fall, the fall -/
def pg_sum (f : Nat → Int32) : List pg_Cl → Int32 → Int32
  | [], a => a
  | .inl _ :: l, a => pg_sum f l a
  | .inr (n, c) :: l, a => pg_sum f l (a + if pg_says f c then n else 0)
def pg_fall : List pg_Cl → Nat → Nat
  | [], a => a
  | .inl n :: l, _ => pg_fall l n
  | .inr _ :: l, a => pg_fall l a
/-! ===== the relation ===== -/
def rM (kd vs lo ya pa ro g : Nat → Int32) (N M : Nat) : Prop :=
  (∀ i, i < N → kd i = g (10 * i) ∧ vs i = g (10 * i + 1) ∧ lo i = g (10 * i + 2) ∧ ya i = g (10 * i + 3) ∧ g (10 * i + 4) = pu_bi (M.testBit i = true) ∧ pa i = g (10 * i + 5) ∧ (∀ j, j < 4 → ro (4 * i + j) = g (10 * i + (6 + j))) ∧ (∃ k, k ≤ 6 ∧ g (10 * i) = nI k) ∧ ∃ y, y ≤ 9 ∧ g (10 * i + 3) = nI y) ∧
  ∀ i, N ≤ i → i < 6 → pa i = 0 ∧ ∀ j, j < 4 → ro (4 * i + j) = 0
def rD (o g : Nat → Int32) (R : Nat) : Prop := o 8 = g 61 ∧ (∃ d, d ≤ 999 ∧ g 61 = nI d) ∧ o 9 = g 62 ∧ ∃ k, k ≤ R ∧ g 63 = nI k ∧ o 10 = nI k - 1
def rP (q f s g : Nat → Int32) (o mo : Nat) (ok : Int32 → Int32 → Prop) : Prop := q 0 = nI mo ∧ ∃ z, z ≤ mo ∧ q 3 = nI z ∧ g o = nI z ∧ ∀ r, r < z → f r = g (o + 1 + 2 * r) ∧ s r = g (o + 2 + 2 * r) ∧ ok (g (o + 1 + 2 * r)) (g (o + 2 + 2 * r))
def okS (N : Nat) (a _ : Int32) : Prop := ∃ m, m < N ∧ a = nI m
def okP (N : Nat) (a b : Int32) : Prop := a = 0 ∨ ((a = 1 ∨ a = 2 ∨ a = 3) ∧ ∃ m, m < N ∧ b = nI m)
/-- a Scene at b, and a row of the reference's -/
def rS (m : Nat → Nat → Int32) (b : Nat) (g : Nat → Int32) (R : Nat) : Prop := ∃ N M : Nat, N ≤ 6 ∧ M < 2 ^ N ∧ m b 0 = nI N ∧ g 60 = nI N ∧ m b 7 = nI M ∧ rM (m (b + 1)) (m (b + 2)) (m (b + 3)) (m (b + 4)) (m (b + 5)) (m (b + 6)) g N M ∧ rD (m b) g R ∧ rP (m (b + 7)) (m (b + 8)) (m (b + 9)) g 64 5 (okS N) ∧ rP (m (b + 10)) (m (b + 11)) (m (b + 12)) g 75 8 (okP N) ∧ rP (m (b + 13)) (m (b + 14)) (m (b + 15)) g 92 8 (okS N)
/-- the rows of a parish that hold clauses, so many steps ahead of them -/
def rC (ad en wh si nu : Nat → Int32) : List pg_Cl → Nat → Nat → Prop
  | [], _, _ => True
  | .inl _ :: l, c, k => rC ad en wh si nu l c k
  | .inr (n, st) :: l, c, k => ad c = n ∧ en c = nI (k + st.length) ∧ (∀ j (h : j < st.length), wh (k + j) = nI (st[j]).1 ∧ si (k + j) = nI (st[j]).2.1 ∧ nu (k + j) = nI (st[j]).2.2) ∧ rC ad en wh si nu l (c + 1) (k + st.length)
def pg_nE : List pg_Cl → Nat
  | [] => 0
  | .inl _ :: l => pg_nE l
  | .inr _ :: l => pg_nE l + 1
/-- a parish at p says these clauses -/
def rA (m : Nat → Nat → Int32) (p : Nat) (cl : List pg_Cl) : Prop := m p 0 = nI (pg_fall cl 2) ∧ m p 1 = nI (pg_nE cl) ∧ rC (m (p + 1)) (m (p + 2)) (m (p + 3)) (m (p + 4)) (m (p + 5)) cl 0 0
/-- parish i, and the reference's rule i -/
def rR (m : Nat → Nat → Int32) (i : Nat) : Prop := ∃ t : pg_T, t.2 ≤ 100 ∧ m 125 i = nI t.2 ∧ (∀ j, j < t.2 → t.1 j < 128 ∧ m 124 (100 * i + j) = nI (t.1 j)) ∧ (pg_all t).1 = true ∧ rA m (71 + 6 * i) (pg_all t).2.2
def rX (m : Nat → Nat → Int32) : Prop := ∃ T, T ≤ 100 ∧ m 49 1 = nI T ∧ m 119 5 = nI T ∧ ∀ j, j < T → m 50 j = m 123 j ∧ ∃ c, c < 128 ∧ m 123 j = nI c
def rT (m : Nat → Nat → Int32) (l : Nat → Nat → Int64) (t : Nat) : Prop := m (107 + 2 * t) 0 = m 137 t ∧ (∃ k, k ≤ 5 ∧ m 137 t = nI k - 1) ∧ (∃ z, z ≤ 60 ∧ m (107 + 2 * t) 1 = nI z ∧ m 138 t = nI z ∧ (m 137 t = -1 → z = 0)) ∧ ∀ j, j < 60 → l (108 + 2 * t) j = l 139 (60 * t + j)
def rB (m : Nat → Nat → Int32) : Prop := ∃ z, z < 100 ∧ m 68 3 = nI z ∧ m 119 26 = nI z ∧ ∀ j, j < 20 → j < z → m 69 j = m 136 j
def Rel (w : xw_M) : Prop := ∃ R : Nat, R ≤ 6 ∧ rS w.1 1 (w.1 120) R ∧ w.1 0 3 = w.1 119 3 ∧ (w.1 0 3 = 0 ∨ w.1 0 3 = 1 ∧ rS w.1 33 (w.1 122) R) ∧ rX w.1 ∧ w.1 0 6 = nI R ∧ w.1 119 8 = nI R ∧ (∀ i, i < R → rR w.1 i) ∧ rA w.1 58 [] ∧ rB w.1 ∧ (∀ t, t < 6 → rT w.1 w.2 t) ∧ (∀ k, (k = 128 ∨ k = 129 ∨ k = 130 ∨ k = 134 ∨ k = 135) → w.1 k = xn_m0.1 k) ∧ w.1 40 0 = nI 5 ∧ w.1 43 0 = nI 8 ∧ w.1 46 0 = nI 8
