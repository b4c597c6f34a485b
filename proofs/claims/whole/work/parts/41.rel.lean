/-! the numbers behind a state, and the relation between class and reference -/
/-- P: 0-3 areas, 4-7 falls, 8-11 weights, 12-15 hits, 16 other, 17 slip, 18 limit -/
def sA (P : Nat → Nat) : Nat := P 0 + P 1 + P 2 + P 3
def sH (P : Nat → Nat) : Nat := P 12 + P 13 + P 14 + P 15
def sc (P : Nat → Nat) : Nat := 10 * sA P
def wh (P : Nat → Nat) : Nat := sH P * (sc P * sc P * sc P) * 1000
/-- a figure of a law -/
def fg (law p : Nat) : Nat := if p = 0 then law / 1331 else if p = 1 then law / 121 % 11 else if p = 2 then law / 11 % 11 else law % 11
def xx (P : Nat → Nat) (law : Nat) : Nat := P 0 * (10 - fg law 0) + P 1 * (10 - fg law 1) + P 2 * (10 - fg law 2) + P 3 * (10 - fg law 3)
def shU (P : Nat → Nat) (n x : Nat) : Nat := P (12 + n) * (x ^ n * sc P ^ (3 - n)) * (1000 - P 16)
def hoR (P : Nat → Nat) (x : Nat) : Nat := (P 13 * (sc P * sc P) + 2 * P 14 * (x * sc P) + 3 * P 15 * (x * x)) * (1000 - P 16)
def hoU (P : Nat → Nat) (p d x : Nat) : Nat := P p * (10 - d) * hoR P x
def nearB (a b m : Nat) : Bool := decide (a ≤ b + m) && decide (b ≤ a + m)
def evB (W S F : Nat → Nat) (p d : Nat) : Bool := (decide (W p = 0) || decide (0 < d)) && nearB (10 * F p) (S p * d) 10
def homB (P K : Nat → Nat) (x sl : Nat) : Bool := nearB (K 0 * shU P 0 x) (K 1 * wh P) (sl * wh P) && (nearB (K 0 * shU P 1 x) (K 2 * wh P) (sl * wh P) && (nearB (K 0 * shU P 2 x) (K 3 * wh P) (sl * wh P) && nearB (K 0 * shU P 3 x) (K 4 * wh P) (sl * wh P)))
def holB (P K : Nat → Nat) (p d x sl : Nat) : Bool := nearB (K 0 * hoU P p d x) (K (5 + p) * wh P) (sl * wh P)
def evAll (W S F : Nat → Nat) (law : Nat) : Bool := evB W S F 0 (fg law 0) && (evB W S F 1 (fg law 1) && (evB W S F 2 (fg law 2) && evB W S F 3 (fg law 3)))
def holAll (P K : Nat → Nat) (law x sl : Nat) : Bool := holB P K 0 (fg law 0) x sl && (holB P K 1 (fg law 1) x sl && (holB P K 2 (fg law 2) x sl && holB P K 3 (fg law 3) x sl))
def fitB (P K W S F : Nat → Nat) (sl law : Nat) : Bool := evAll W S F law && (homB P K (xx P law) sl && holAll P K law (xx P law) sl)
/-- the laws that fit -/
def LW (P K W S F : Nat → Nat) : List Nat := (List.range 14641).filter (fitB P K W S F (P 17))
/-- plates -/
def bt1 (s p : Nat) : Nat := s / 2 ^ p % 2
def wt (P : Nat → Nat) (s : Nat) : Nat := bt1 s 0 * P 8 + bt1 s 1 * P 9 + bt1 s 2 * P 10 + bt1 s 3 * P 11
def okS (P : Nat → Nat) (s : Nat) : Bool := decide (wt P s ≤ P 18)
def fgS (law s p : Nat) : Nat := if bt1 s p = 1 then fg law p / 2 else fg law p
def xS (P : Nat → Nat) (law s : Nat) : Nat := P 0 * (10 - fgS law s 0) + P 1 * (10 - fgS law s 1) + P 2 * (10 - fgS law s 2) + P 3 * (10 - fgS law s 3)
def fac (P : Nat → Nat) (s i : Nat) : Nat := if i = 0 then P 12 * (100 - wt P s) * (sc P * sc P * sc P) else if i = 1 then (P 13 * (100 - wt P s) + P 12 * wt P s) * (sc P * sc P) else if i = 2 then (P 14 * (100 - wt P s) + P 13 * wt P s) * sc P else P 15 * 100 + P 14 * wt P s
def hX_ (P : Nat → Nat) (s x : Nat) : Nat := ((fac P s 3 * x + fac P s 2) * x + fac P s 1) * x + fac P s 0
def amx (ok : Nat → Bool) (h : Nat → Nat) : Nat → Nat
  | 0 => 0
  | n + 1 => if ok n = true ∧ h (amx ok h n) < h n then n else amx ok h n
def bestV (P : Nat → Nat) (law : Nat) : Nat := amx (okS P) (fun s => hX_ P s (xS P law s)) 16
def minX (P : Nat → Nat) (L : List Nat) (s : Nat) : Nat := L.foldl (fun m law => min m (xS P law s)) 800
def safeV (P : Nat → Nat) (L : List Nat) : Nat := amx (okS P) (fun s => hX_ P s (minX P L s)) 16
def unlV (P : Nat → Nat) (L : List Nat) : Option Nat := match L with
  | [] => none
  | l0 :: r => r.find? (fun law => decide (bestV P law ≠ bestV P l0))
/-- bounds -/
def rP (P : Nat → Nat) : Prop := (∀ p, p < 4 → 1 ≤ P p ∧ P p ≤ 20) ∧ (∀ p, p < 4 → P (4 + p) ≤ 10) ∧ (∀ p, p < 4 → P (8 + p) ≤ 20) ∧ (∀ n, n < 4 → P (12 + n) ≤ 99) ∧ 0 < sH P ∧ P 16 ≤ 999 ∧ P 17 ≤ 99 ∧ P 18 ≤ 60
def rK (K : Nat → Nat) : Prop := K 0 ≤ 999 ∧ K 1 + K 2 + K 3 + K 4 ≤ K 0 ∧ (∀ p, p < 4 → K (5 + p) ≤ 3 * K 0) ∧ K 9 ≤ K 0
def rE (W S F : Nat → Nat) : Prop := ∀ p, p < 4 → W p ≤ 1 ∧ S p ≤ 20 ∧ F p ≤ S p
/-- the tape -/
def rTape (u : CX) (v : MX) : Prop := ∃ n, n ≤ 200 ∧ xg_tsize u = nI n ∧ mg_taped v = nI n ∧ ∀ j, j < n → ∃ c, c < 256 ∧ mg_tape v j = nI c ∧ xg_bytes u j = (nI c).toInt8.toInt32
def mConst (v : MX) : Prop := (∀ j, j < 8 → mg_ends v j = ([0, 4, 9, 14, 18, 23, 27, 32] : List Int32).getD j 0) ∧ (∀ j, j < 32 → mg_letters v j = ([97, 114, 101, 97, 102, 97, 108, 108, 115, 112, 108, 97, 116, 101, 104, 105, 116, 115, 111, 116, 104, 101, 114, 115, 108, 105, 112, 108, 105, 109, 105, 116] : List Int32).getD j 0) ∧ (∀ j, j < 19 → mg_plain v j = ([10, 10, 10, 10, 2, 2, 2, 2, 5, 5, 5, 5, 1, 1, 1, 1, 0, 5, 10] : List Int32).getD j 0)
def rMisc (u : CX) (v : MX) : Prop := xg_torn u = mg_torn v ∧ xg_rfault u = mg_fault v ∧ xg_seed u = mg_seed v
/-- what the text told -/
def xTm (P : Nat → Nat) (u : CX) : Prop := (∀ j, j < 12 → xg_Tparts u j = nI (P j)) ∧ (∀ j, j < 7 → xg_Trules u j = nI (P (12 + j))) ∧ xg_TallAreas u = nI (sA P) ∧ xg_TallHits u = nI (sH P) ∧ xg_Tscale u = lN (sc P) ∧ xg_Tbottom u = lN (wh P)
def xPl (P : Nat → Nat) (u : CX) : Prop := (∀ s, s < 16 → xg_light u s = if okS P s then 1 else 0) ∧ (∀ s i, s < 16 → i < 4 → xg_factors u (4 * s + i) = lN (fac P s i))
def mHd (P : Nat → Nat) (v : MX) : Prop := ∀ j, j < 19 → mg_holds v j = nI (P j)
/-- what is known: T 0 .. T n, the acts' states; T n is now -/
def xHm (n : Nat) (T : Nat → Nat → Nat) (u : CX) : Prop := (∀ j, j < 10 → xg_sums u j = nI (T n j)) ∧ xg_acts u = nI n ∧ ∃ lt, lt < 8 ∧ xg_latest u = nI lt ∧ ∀ i, i < n → ∀ j, j < 10 → xg_rows u ((lt + 8 - i) % 8) j = nI (T (n - i) j) - nI (T (n - i - 1) j)
def mHm (n : Nat) (T : Nat → Nat → Nat) (v : MX) : Prop := (∀ j, j < 10 → mg_known v j = nI (T n j)) ∧ mg_undos v = nI n ∧ ∀ i, i < n → ∀ j, j < 10 → mg_back v (10 * i + j) = nI (T i j)
def rHm (n : Nat) (T : Nat → Nat → Nat) : Prop := n ≤ 8 ∧ ∀ i, i ≤ n → rK (T i)
def rEv (W S F : Nat → Nat) (u : CX) (v : MX) : Prop := ∀ p, p < 4 → xg_wrecks u p = nI (W p) ∧ mg_wrecks v p = nI (W p) ∧ xg_shots u p = nI (S p) ∧ mg_shots v p = nI (S p) ∧ xg_downs u p = nI (F p) ∧ mg_shotDown v p = nI (F p)
/-- the laws kept: Lf the laws below i that b takes, in order; cM counts along a row; kb a bit of a word -/
def Lf (b : Nat → Bool) (i : Nat) : List Nat := (List.range i).filter b
def cM (g : Nat → Bool) : Nat → Nat
  | 0 => 0
  | m + 1 => cM g m + (if g m = true then 1 else 0)
def tal (L : List Nat) (p d m : Nat) : Nat := cM (fun i => decide (fg (L.getD i 0) p = d)) m
def kb (w : Int32) (d : Nat) : Bool := decide (((w >>> (nI d &&& 31)) &&& 1) = 1)
def xKp (b : Nat → Bool) (i : Nat) (u : CX) : Prop := xg_gsize u = nI (Lf b i).length ∧ (∀ law, law < 14641 → kb (xg_bits u (law / 11)) (law % 11) = (decide (law < i) && b law)) ∧
  (∀ p d, p < 4 → d ≤ 10 → xg_tally u (11 * p + d) = nI (tal (Lf b i) p d (Lf b i).length)) ∧
  ((Lf b i).length = 0 ∨ ∃ lo hi, lo ≤ hi ∧ hi < i ∧ b lo = true ∧ b hi = true ∧ (∀ j, j < lo → ¬ b j = true) ∧ (∀ j, hi < j → j < i → ¬ b j = true) ∧ xg_gleast u = nI lo ∧ xg_gmost u = nI hi)
def xGr (P K W S F : Nat → Nat) (u : CX) : Prop := (xg_stale u = 1 ∧ xg_safestF u = -9 ∧ xg_unlikeF u = -9) ∨ (xg_stale u = 0 ∧ xKp (fitB P K W S F (P 17)) 14641 u ∧
  (xg_safestF u = -9 ∨ xg_safestF u = nI (safeV P (LW P K W S F))) ∧ (xg_unlikeF u = -9 ∨ xg_unlikeF u = (match unlV P (LW P K W S F) with | none => -4 | some l => nI l)))
def mGr (P K W S F : Nat → Nat) (v : MX) : Prop := mg_old v = 1 ∨ (mg_old v = 0 ∧ ∀ law, law < 14641 → mg_good v law = if fitB P K W S F (P 17) law then 1 else 0)
def rSh (u : CX) (v : MX) : Prop := ∀ k, k < 4 → ((xg_slane u k = -1 ∧ mg_lanes v k = -4) ∨ ∃ l, l < 3 ∧ xg_slane u k = nI l ∧ mg_lanes v k = nI l) ∧ (∃ n, n ≤ 48 ∧ xg_ssize u k = nI n ∧ mg_lengths v k = nI n) ∧ ∀ i, i < 48 → xg_scells u k i = mg_cells v (48 * k + i)
def RelG (P : Nat → Nat) (n : Nat) (T : Nat → Nat → Nat) (W S F : Nat → Nat) (u : CX) (v : MX) : Prop :=
  rP P ∧ rHm n T ∧ rE W S F ∧ rTape u v ∧ mConst v ∧ rMisc u v ∧ xTm P u ∧ xPl P u ∧ mHd P v ∧ xHm n T u ∧ mHm n T v ∧ rEv W S F u v ∧ xGr P (T n) W S F u ∧ mGr P (T n) W S F v ∧ rSh u v
def Rel (u : CX) (v : MX) : Prop := ∃ P n T W S F, RelG P n T W S F u v
