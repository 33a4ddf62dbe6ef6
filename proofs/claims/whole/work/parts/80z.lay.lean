/-! The cells that never move -/
/-- the reference's cells, fixed for ever: LeafStripesModel at 134, its rows 135 to 163 -/
abbrev RLay' (M : Mem) : Prop := mK M 134 = 13 ∧ mR M 134 0 = 135 ∧ mR M 134 1 = 136 ∧ mR M 134 3 = 137 ∧ mR M 134 4 = 138 ∧ mR M 134 15 = 139 ∧ mR M 134 16 = 140 ∧ mR M 134 17 = 141 ∧ mR M 134 18 = 142 ∧ mR M 134 19 = 143 ∧ mR M 134 20 = 144 ∧ mR M 134 21 = 145 ∧ mR M 134 22 = 146 ∧ mR M 134 23 = 147 ∧ mR M 134 24 = 148 ∧ mR M 134 25 = 149 ∧ mR M 134 27 = 150 ∧ mR M 134 28 = 151 ∧ mR M 134 29 = 152 ∧ mR M 134 32 = 153 ∧ mR M 134 33 = 154 ∧ mR M 134 38 = 155 ∧ mR M 134 39 = 156 ∧ mR M 134 40 = 157 ∧ mR M 134 44 = 158 ∧ mR M 134 45 = 159 ∧ mR M 134 46 = 160 ∧ mR M 134 52 = 161 ∧ mR M 134 53 = 162 ∧ mR M 134 54 = 163
  ∧ mK M 135 = 26 ∧ mK M 136 = 26 ∧ mK M 137 = 21 ∧ mK M 138 = 21 ∧ mK M 139 = 21 ∧ mK M 140 = 21 ∧ mK M 141 = 21 ∧ mK M 142 = 21 ∧ mK M 143 = 21 ∧ mK M 144 = 21 ∧ mK M 145 = 21 ∧ mK M 146 = 21 ∧ mK M 147 = 21 ∧ mK M 148 = 21 ∧ mK M 149 = 21 ∧ mK M 150 = 21 ∧ mK M 151 = 21 ∧ mK M 152 = 21 ∧ mK M 153 = 21 ∧ mK M 154 = 21 ∧ mK M 155 = 21 ∧ mK M 156 = 21 ∧ mK M 157 = 21 ∧ mK M 158 = 21 ∧ mK M 159 = 21 ∧ mK M 160 = 21 ∧ mK M 161 = 21 ∧ mK M 162 = 21 ∧ mK M 163 = 21
  ∧ mN M 135 = 3 ∧ mN M 136 = 7 ∧ mN M 137 = 700 ∧ mN M 138 = 2 ∧ mN M 139 = 48 ∧ mN M 140 = 48 ∧ mN M 141 = 48 ∧ mN M 142 = 48 ∧ mN M 143 = 48 ∧ mN M 144 = 48 ∧ mN M 145 = 48 ∧ mN M 146 = 192 ∧ mN M 147 = 3 ∧ mN M 148 = 3 ∧ mN M 149 = 8 ∧ mN M 150 = 960 ∧ mN M 151 = 8 ∧ mN M 152 = 38760 ∧ mN M 153 = 969 ∧ mN M 154 = 969 ∧ mN M 155 = 8 ∧ mN M 156 = 48 ∧ mN M 157 = 48 ∧ mN M 158 = 16 ∧ mN M 159 = 16 ∧ mN M 160 = 8 ∧ mN M 161 = 969 ∧ mN M 162 = 38760 ∧ mN M 163 = 2
  ∧ mR M 135 0 = 1000010 ∧ mR M 135 1 = 1000011 ∧ mR M 135 2 = 1000012 ∧ mR M 136 0 = 1000013 ∧ mR M 136 1 = 1000014 ∧ mR M 136 2 = 1000015 ∧ mR M 136 3 = 1000016 ∧ mR M 136 4 = 1000017 ∧ mR M 136 5 = 1000018 ∧ mR M 136 6 = 1000019
/-- the class's cells, fixed for ever -/
abbrev CLay' (M : Mem) : Prop := mK M 1 = 12 ∧ mR M 1 0 = 2 ∧ mR M 1 1 = 4 ∧ mR M 1 2 = 5 ∧ mR M 1 3 = 7 ∧ mR M 1 4 = 8 ∧ mR M 1 5 = 15 ∧ mR M 1 6 = 18 ∧ mR M 1 7 = 53
  ∧ mK M 2 = 10 ∧ mR M 2 0 = 3 ∧ mK M 3 = 21 ∧ mN M 3 = 700 ∧ mK M 4 = 7 ∧ mK M 5 = 5 ∧ mR M 5 0 = 6 ∧ mK M 6 = 21 ∧ mN M 6 = 8 ∧ mK M 7 = 2 ∧ mK M 8 = 9 ∧ mR M 8 7 = 9 ∧ mK M 9 = 25 ∧ mN M 9 = 5 ∧ mR M 9 0 = 10 ∧ mR M 9 1 = 11 ∧ mR M 9 2 = 12 ∧ mR M 9 3 = 13 ∧ mR M 9 4 = 14 ∧ mK M 10 = 21 ∧ mK M 11 = 21 ∧ mK M 12 = 21 ∧ mK M 13 = 21 ∧ mK M 14 = 21 ∧ mN M 10 = 8 ∧ mN M 11 = 8 ∧ mN M 12 = 8 ∧ mN M 13 = 8 ∧ mN M 14 = 8
  ∧ mK M 15 = 11 ∧ mR M 15 2 = 16 ∧ mR M 15 3 = 17 ∧ mK M 16 = 21 ∧ mK M 17 = 21 ∧ mN M 16 = 8 ∧ mN M 17 = 8
  ∧ mK M 18 = 8 ∧ mR M 18 0 = 19 ∧ mR M 18 2 = 20 ∧ mK M 19 = 23 ∧ mN M 19 = 8 ∧ mK M 20 = 24 ∧ mN M 20 = 40
  ∧ mK M 53 = 8 ∧ mR M 53 0 = 54 ∧ mR M 53 2 = 55 ∧ mK M 54 = 23 ∧ mN M 54 = 8 ∧ mK M 55 = 24 ∧ mN M 55 = 40
/-- the columns of both states; b is 21 or 56 -/
abbrev ColLay (M : Mem) (b : Nat) : Prop := (∀ l, l < 8 → mK M (b + 4 * l) = 3) ∧ (∀ l, l < 8 → mR M (b + 4 * l) 0 = b + 4 * l + 1) ∧ (∀ l, l < 8 → mR M (b + 4 * l) 1 = b + 4 * l + 2) ∧ (∀ l, l < 8 → mR M (b + 4 * l) 2 = b + 4 * l + 3) ∧ (∀ l, l < 8 → mK M (b + 4 * l + 1) = 21) ∧ (∀ l, l < 8 → mK M (b + 4 * l + 2) = 21) ∧ (∀ l, l < 8 → mK M (b + 4 * l + 3) = 21) ∧ (∀ l, l < 8 → mN M (b + 4 * l + 1) = 120) ∧ (∀ l, l < 8 → mN M (b + 4 * l + 2) = 120) ∧ (∀ l, l < 8 → mN M (b + 4 * l + 3) = 120) ∧ (∀ l, l < 8 → mR M (b - 2) l = b + 4 * l)
/-- a Shape at s -/
abbrev ShLay' (M : Mem) (s : Nat) : Prop := mK M s = 6 ∧ mR M s 2 = s + 1 ∧ mR M s 3 = s + 2 ∧ mR M s 4 = s + 3 ∧ mR M s 5 = s + 4 ∧ mR M s 6 = s + 5 ∧ mR M s 7 = s + 6 ∧ mR M s 8 = s + 7 ∧ mR M s 9 = s + 8 ∧ mR M s 10 = s + 9 ∧ mR M s 11 = s + 10 ∧ mR M s 12 = s + 11
  ∧ mK M (s + 1) = 21 ∧ mK M (s + 2) = 21 ∧ mK M (s + 3) = 21 ∧ mK M (s + 4) = 21 ∧ mK M (s + 5) = 21 ∧ mK M (s + 6) = 21 ∧ mK M (s + 7) = 21 ∧ mK M (s + 8) = 21 ∧ mK M (s + 9) = 21 ∧ mK M (s + 10) = 21 ∧ mK M (s + 11) = 21
  ∧ mN M (s + 1) = 16 ∧ mN M (s + 2) = 16 ∧ mN M (s + 3) = 16 ∧ mN M (s + 4) = 16 ∧ mN M (s + 5) = 16 ∧ mN M (s + 6) = 16 ∧ mN M (s + 7) = 64 ∧ mN M (s + 8) = 16 ∧ mN M (s + 9) = 16 ∧ mN M (s + 10) = 16 ∧ mN M (s + 11) = 8
/-- a Pipe at p -/
abbrev PiLay' (M : Mem) (p : Nat) : Prop := mK M p = 4 ∧ mR M p 1 = p + 1 ∧ mR M p 3 = p + 2 ∧ mR M p 4 = p + 3 ∧ mR M p 5 = p + 4 ∧ mK M (p + 1) = 21 ∧ mK M (p + 2) = 21 ∧ mK M (p + 3) = 21 ∧ mK M (p + 4) = 21 ∧ mN M (p + 1) = 120 ∧ mN M (p + 2) = 8 ∧ mN M (p + 3) = 8 ∧ mN M (p + 4) = 8
def RLay (M : Mem) : Prop := RLay' M
theorem RLay.o {M : Mem} (h : RLay M) : RLay' M := h
theorem RLay_MB : RLay MB := by
  unfold RLay RLay'
  repeat' apply And.intro
  all_goals decide +kernel
def CLay (M : Mem) : Prop := CLay' M
theorem CLay.o {M : Mem} (h : CLay M) : CLay' M := h
theorem CLay_MB : CLay MB := by
  unfold CLay CLay'
  decide +kernel
theorem ColLay_MB : ColLay MB 21 ∧ ColLay MB 56 := by
  unfold ColLay
  decide +kernel
def ShLay (M : Mem) (s : Nat) : Prop := ShLay' M s
theorem ShLay.o {M : Mem} {s : Nat} (h : ShLay M s) : ShLay' M s := h
theorem ShLay_MB : ShLay MB 88 ∧ ShLay MB 100 ∧ ShLay MB 112 := by
  refine ⟨?_, ?_, ?_⟩
  · unfold ShLay ShLay'
    repeat' apply And.intro
    all_goals decide +kernel
  · unfold ShLay ShLay'
    repeat' apply And.intro
    all_goals decide +kernel
  · unfold ShLay ShLay'
    repeat' apply And.intro
    all_goals decide +kernel
def PiLay (M : Mem) (p : Nat) : Prop := PiLay' M p
theorem PiLay.o {M : Mem} {p : Nat} (h : PiLay M p) : PiLay' M p := h
theorem PiLay_MB : PiLay MB 124 ∧ PiLay MB 129 := by
  unfold PiLay PiLay'
  decide +kernel
