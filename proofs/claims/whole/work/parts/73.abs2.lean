/-! ===== THE VALLEY IN PLAIN NUMBERS: sets, sums, wishes, deaths, years ===== -/
/-- a set as the loops build it -/
def sI (p : Nat → Bool) : Nat → Int32
  | 0 => 0
  | k + 1 => if p k then sI p k ||| ((1 : Int32) <<< (nI k &&& 31)) else sI p k
theorem sI_cong {p q : Nat → Bool} : ∀ {n : Nat}, (∀ k, k < n → p k = q k) → sI p n = sI q n
  | 0, _ => rfl
  | n + 1, h => by
    rw [sI, sI, sI_cong (n := n) (fun k hk => h k (by omega)), h n (by omega)]
/-- the first place from k on, in t steps, where p holds: 0 none, m + 1 -/
def fs (p : Nat → Bool) (k : Nat) : Nat → Nat
  | 0 => 0
  | t + 1 => if p k then k + 1 else fs p (k + 1) t
theorem fs_le (p : Nat → Bool) : ∀ (t k : Nat), fs p k t ≤ k + t
  | 0, k => Nat.zero_le _
  | t + 1, k => by
    rw [fs]
    split
    · omega
    · have := fs_le p t (k + 1); omega
theorem fs_cong {p q : Nat → Bool} : ∀ (t k : Nat), (∀ m, k ≤ m → m < k + t → p m = q m) → fs p k t = fs q k t
  | 0, k, _ => rfl
  | t + 1, k, h => by
    rw [fs, fs, h k (by omega) (by omega), fs_cong t (k + 1) (fun m h1 h2 => h m (by omega) (by omega))]
def watch (a : AS) (i : Nat) : Int32 := sI (fun k => a_lv a k && (aim a k == i + 1)) (a_n a)
def heirs (a : AS) (i k : Nat) : Bool := a_lv a k && (heir a k == i + 1)
def wish (a : AS) (i : Nat) : Nat := if (if a_kd a i = 2 then heir a i else aim a i) = 0 then 0 else fs (fun m => (a_wy a i m == a_wy a ((if a_kd a i = 2 then heir a i else aim a i) - 1) m) == decide (a_kd a i = 2)) 0 (if a_kd a i = 4 then 8 else 9)
def chg (a : AS) (i : Nat) : Nat := if wish a i = 0 ∨ a_gd a i < a_co a (wish a i - 1) then 0 else wish a i
def neww (a : AS) (i m : Nat) : Nat := if a_kd a i = 2 then (a_wy a i m + 1) % 4 else a_wy a (aim a i - 1) m
def setw (a : AS) (i m x : Nat) : AS := a_set_wy a (va_up (a_wy a) i (va_up (a_wy a i) m x))
def setg (a : AS) (i x : Nat) : AS := a_set_gd a (va_up (a_gd a) i x)
def alter (a : AS) (i : Nat) : AS := if chg a i = 0 then a else setg (setw a i (chg a i - 1) (neww a i (chg a i - 1))) i (a_gd a i - a_co a (chg a i - 1))
def gain (a : AS) (i x : Nat) : AS := setg a i (if 999999 < a_gd a i + x then 999999 else a_gd a i + x)
def dead (a : AS) (i : Nat) : AS := a_set_lv a (va_up (a_lv a) i false)
/-- one dies: it is dead first, then leaves -/
def die (a : AS) (i : Nat) : AS :=
  if heir (dead a i) i = 0 then setg (dead a i) i 0
  else if a_l a = 2 ∧ hb (dead a i) i (heir (dead a i) i - 1) (a_n a) ≠ 0 then gain (gain (setg (dead a i) i 0) (heir (dead a i) i - 1) (a_gd a i - a_gd a i / 2)) (hb (dead a i) i (heir (dead a i) i - 1) (a_n a) - 1) (a_gd a i / 2)
  else gain (setg (dead a i) i 0) (heir (dead a i) i - 1) (a_gd a i)
def alters (a : AS) : Nat → AS
  | 0 => a
  | k + 1 => if a_lv (alters a k) k then alter (alters a k) k else alters a k
def olds (a : AS) : Nat → AS
  | 0 => a
  | k + 1 => if a_lv (olds a k) k = true ∧ a_ag (olds a k) k < 120 then a_set_ag (olds a k) (va_up (a_ag (olds a k)) k (a_ag (olds a k) k + 1)) else olds a k
def deaths (a : AS) : Nat → AS
  | 0 => a
  | k + 1 => if a_lv (deaths a k) k = true ∧ a_tm (deaths a k) k ≤ a_ag (deaths a k) k then die (deaths a k) k else deaths a k
def ndead (a : AS) : Nat → Nat
  | 0 => 0
  | k + 1 => if a_lv (deaths a k) k = true ∧ a_tm (deaths a k) k ≤ a_ag (deaths a k) k then ndead a k + 1 else ndead a k
/-- a year, but its number -/
def yearA (a : AS) : AS := olds (alters a (a_n a)) (a_n a)
def year (a : AS) : AS := a_set_y (deaths (yearA a) (a_n a)) (a_y a + 1)
/-- i dies in this year -/
def dies (a : AS) (i : Nat) : Prop := a_lv (deaths (yearA a) i) i = true ∧ a_tm (deaths (yearA a) i) i ≤ a_ag (deaths (yearA a) i) i
/-- its heir, as it dies -/
def heirAt (a : AS) (i : Nat) : Nat := heir (dead (deaths (yearA a) i) i) i
def yearD (a : AS) : Nat := ndead (yearA a) (a_n a)
def years (a : AS) : Nat → AS
  | 0 => a
  | k + 1 => year (years a k)
def yearsD (a : AS) : Nat → Nat
  | 0 => 0
  | k + 1 => yearsD a k + yearD (years a k)
