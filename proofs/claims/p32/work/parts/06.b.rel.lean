/-! REL: the fight as numbers, and how the class and the model hold it -/
abbrev AT : Type := (Nat × Nat × Nat × Nat × Nat) × ((Nat → Nat) × (Nat → Nat) × (Nat → Nat) × (Nat → Nat) × (Nat → Nat))
def aR (a : AT) : Nat := a.1.1
def aB (a : AT) : Nat := a.1.2.1
def aJ (a : AT) : Nat := a.1.2.2.1
def aH (a : AT) : Nat := a.1.2.2.2.1
def aN (a : AT) : Nat := a.1.2.2.2.2
def bl (a : AT) : Nat → Nat := a.2.1
def jd (a : AT) : Nat → Nat := a.2.2.1
def fw (a : AT) : Nat → Nat := a.2.2.2.1
def dn (a : AT) : Nat → Nat := a.2.2.2.2.1
def tk (a : AT) : Nat → Nat := a.2.2.2.2.2
/-- a blow's numbers are in their bounds -/
def okBl (f : Nat → Nat) (k : Nat) : Prop := f (5 * k) < 12 ∧ f (5 * k + 1) < 180 ∧ f (5 * k + 2) < 2 ∧ 1 ≤ f (5 * k + 3) ∧ f (5 * k + 3) ≤ 9 ∧ f (5 * k + 4) < 12
def okJd (f : Nat → Nat) (j : Nat) : Prop := f (7 * j) < 12 ∧ f (7 * j + 1) ≤ 9 ∧ f (7 * j + 2) ≤ 9 ∧ f (7 * j + 3) ≤ 40 ∧ 1 ≤ f (7 * j + 4) ∧ f (7 * j + 4) ≤ 9 ∧ f (7 * j + 5) ≤ 9 ∧ f (7 * j + 6) ≤ 99
/-- what a read text has told so far (any number of judges) -/
def OKD (a : AT) : Prop := (1 ≤ aR a ∧ aR a ≤ 12) ∧ aB a ≤ 40 ∧ aJ a ≤ 8 ∧ (aH a ≤ 1 ∧ aN a ≤ 9) ∧ (∀ k, k < aB a → okBl (bl a) k) ∧ (∀ j, j < aJ a → okJd (jd a) j) ∧ (∀ k, k < 24 → fw a k ≤ 9) ∧ (∀ r, r < 12 → dn a (2 * r) + dn a (2 * r + 1) ≤ 3) ∧ (∀ r, r < 12 → tk a (2 * r) + tk a (2 * r + 1) ≤ 3)
def OKA (a : AT) : Prop := OKD a ∧ 3 ≤ aJ a
def nearB (x y : Nat) : Bool := decide ((if x < y then y - x else x - y) ≤ 4 ∨ 8 ≤ (if x < y then y - x else x - y))
def seesB (a : AT) (j k : Nat) : Bool := nearB (jd a (7 * j)) (bl a (5 * k + 4))
/-- what blow k is worth for corner c in round r by judge j -/
def gW (a : AT) (j r c k : Nat) : Nat := if bl a (5 * k) = r ∧ bl a (5 * k + 2) = c then (if seesB a j k = true then jd a (7 * j + 1) * bl a (5 * k + 3) * (if bl a (5 * k + 1) < 170 then 1 else jd a (7 * j + 4)) else if aH a = c then aN a * jd a (7 * j + 5) else 0) else 0
def sF (g : Nat → Nat) : Nat → Nat → Nat
  | _, 0 => 0
  | i, d + 1 => g i + sF g (i + 1) d
def sumS (a : AT) (j r c : Nat) : Nat := jd a (7 * j + 2) * fw a (2 * r + c) + sF (gW a j r c) 0 (aB a)
def leadS (a : AT) (j r : Nat) : Int := (sumS a j r 0 : Int) - sumS a j r 1 + jd a (7 * j + 3) - 20
/-- bits of the judges from i on (d of them) that see a blow -/
def seenS (a : AT) (k : Nat) : Nat → Nat
  | 0 => 0
  | n + 1 => seenS a k n ||| (if seesB a n k = true then 1 <<< n else 0)
/-- the model's first book -/
def RM (a : AT) (roundMany blowMany blows forwards downs takens homes noises judgeMany judges : Nat → Int32) : Prop :=
  roundMany 0 = nI (aR a) ∧ blowMany 0 = nI (aB a) ∧ judgeMany 0 = nI (aJ a) ∧ homes 0 = nI (aH a) ∧ noises 0 = nI (aN a) ∧
  (∀ k, k < 5 * aB a → blows k = nI (bl a k)) ∧ (∀ k, k < 7 * aJ a → judges k = nI (jd a k)) ∧ (∀ k, k < 24 → forwards k = nI (fw a k)) ∧ (∀ k, k < 24 → downs k = nI (dn a k)) ∧ (∀ k, k < 24 → takens k = nI (tk a k))
/-- the class's fight, as read -/
def RCr (a : AT) (rounds home noise blowCount judgeCount : Int32) (blows judges forward downs taken : Nat → Int32) : Prop :=
  rounds = nI (aR a) ∧ home = nI (aH a) ∧ noise = nI (aN a) ∧ blowCount = nI (aB a) ∧ judgeCount = nI (aJ a) ∧
  (∀ k, k < 5 * aB a → blows k = nI (bl a k)) ∧ (∀ k, k < 7 * aJ a → judges k = nI (jd a k)) ∧ (∀ k, k < 24 → forward k = nI (fw a k)) ∧ (∀ k, k < 24 → downs k = nI (dn a k)) ∧ (∀ k, k < 24 → taken k = nI (tk a k))
/-- what it has added up -/
def RCs (a : AT) (seenBy sums leads : Nat → Int32) : Prop :=
  (∀ k, k < aB a → seenBy k = nI (seenS a k (aJ a))) ∧ (∀ j r c, j < aJ a → r < 12 → c < 2 → sums ((j * 12 + r) * 2 + c) = nI (sumS a j r c)) ∧ (∀ j r, j < aJ a → r < 12 → leads (j * 12 + r) = iI (leadS a j r))
def RF (c_laid_rounds c_laid_home c_laid_noise c_laid_blowCount c_laid_judgeCount : Int32) (c_laid_blows c_laid_judges c_laid_forward c_laid_downs c_laid_taken c_laid_seenBy c_laid_sums c_laid_leads : Nat → Int32) (m_roundMany m_blowMany m_blows m_forwards m_downs m_takens m_homes m_noises m_judgeMany m_judges : Nat → Int32) : Prop :=
  ∃ a : AT, OKA a ∧ RCr a c_laid_rounds c_laid_home c_laid_noise c_laid_blowCount c_laid_judgeCount c_laid_blows c_laid_judges c_laid_forward c_laid_downs c_laid_taken ∧ RCs a c_laid_seenBy c_laid_sums c_laid_leads ∧ RM a m_roundMany m_blowMany m_blows m_forwards m_downs m_takens m_homes m_noises m_judgeMany m_judges
/-- the text -/
def RT (len : Int32) (bytes : Nat → Int32) (mlen : Int32) (text : Nat → Int32) : Prop := ∃ (n : Nat) (t : Nat → Nat), n ≤ 500 ∧ len = nI n ∧ mlen = nI n ∧ ∀ k, k < n → t k < 256 ∧ text k = nI (t k) ∧ bytes k = Int8.toInt32 (Int32.toInt8 (nI (t k)))
/-- notes, the class's and the model's b-th row of them -/
def NR (d m o : Nat → Int32) (md mt mo : Nat → Int32) (b : Nat) : Prop :=
  (∀ j, j < 8 → ∃ v : Nat, v ≤ 9 ∧ d j = nI v ∧ md (8 * b + j) = nI v) ∧ (∀ k, k < 144 → ∃ z : Int, -21 ≤ z ∧ z ≤ 20 ∧ m k = iI z ∧ mt (144 * b + k) = iI z) ∧ (∀ k, k < 4 → ∃ v : Nat, v ≤ 10 ∧ o k = nI v ∧ mo (4 * b + k) = nI v)
def RN (d m o d0 m0 o0 d1 m1 o1 : Nat → Int32) (kept : Int32) (md mt mo : Nat → Int32) (mkept : Int32) : Prop :=
  ∃ K : Nat, K ≤ 2 ∧ kept = nI K ∧ mkept = nI K ∧ NR d m o md mt mo 0 ∧ (1 ≤ K → NR d0 m0 o0 md mt mo 1) ∧ (2 ≤ K → NR d1 m1 o1 md mt mo 2)
/-- the seats that see a side, as bits -/
def watchS (side : Nat) : Nat → Nat
  | 0 => 0
  | n + 1 => watchS side n ||| (if nearB n side = true then 1 <<< n else 0)
def RW (watchers : Nat → Int32) : Prop := ∀ side, side < 12 → watchers side = nI (watchS side 12)
def RR (c_text_length : Int32) (c_text_bytes : Nat → Int32) (c_laid_rounds : Int32) (c_laid_home : Int32) (c_laid_noise : Int32) (c_laid_blowCount : Int32) (c_laid_judgeCount : Int32) (c_laid_blows : Nat → Int32) (c_laid_judges : Nat → Int32) (c_laid_forward : Nat → Int32) (c_laid_downs : Nat → Int32) (c_laid_taken : Nat → Int32) (c_laid_seenBy : Nat → Int32) (c_laid_sums : Nat → Int32) (c_laid_leads : Nat → Int32) (c_bench_watchers : Nat → Int32) (c_notes_delays : Nat → Int32) (c_notes_margins : Nat → Int32) (c_notes_odds : Nat → Int32) (c_kept_0_delays : Nat → Int32) (c_kept_0_margins : Nat → Int32) (c_kept_0_odds : Nat → Int32) (c_kept_1_delays : Nat → Int32) (c_kept_1_margins : Nat → Int32) (c_kept_1_odds : Nat → Int32) (c_keptCount : Int32) (m_length : Int32) (m_text : Nat → Int32) (m_roundMany : Nat → Int32) (m_blowMany : Nat → Int32) (m_blows : Nat → Int32) (m_forwards : Nat → Int32) (m_downs : Nat → Int32) (m_takens : Nat → Int32) (m_homes : Nat → Int32) (m_noises : Nat → Int32) (m_judgeMany : Nat → Int32) (m_judges : Nat → Int32) (m_delays : Nat → Int32) (m_tolds : Nat → Int32) (m_tens : Nat → Int32) (m_keptMany : Int32) : Prop :=
  RT c_text_length c_text_bytes m_length m_text ∧ RF c_laid_rounds c_laid_home c_laid_noise c_laid_blowCount c_laid_judgeCount c_laid_blows c_laid_judges c_laid_forward c_laid_downs c_laid_taken c_laid_seenBy c_laid_sums c_laid_leads m_roundMany m_blowMany m_blows m_forwards m_downs m_takens m_homes m_noises m_judgeMany m_judges ∧ RW c_bench_watchers ∧ RN c_notes_delays c_notes_margins c_notes_odds c_kept_0_delays c_kept_0_margins c_kept_0_odds c_kept_1_delays c_kept_1_margins c_kept_1_odds c_keptCount m_delays m_tolds m_tens m_keptMany
