def rgO1 : Nat → Int × Int
  | 8 => (0, 5)
  | 9 => (0, 1024)
  | 10 => (0, 1)
  | 14 => (0, 33554431)
  | 15 => (0, 33554431)
  | 16 => (0, 600000)
  | 17 => (-4000000, 4000000)
  | _ => (-2147483648, 2147483647)
def rgO2 : Nat → Int × Int
  | 0 => (0, 8)
  | 1 => (0, 8)
  | 2 => (0, 64)
  | 3 => (0, 12)
  | 4 => (-1, 11)
  | 5 => (-1, 11)
  | 6 => (-1, 11)
  | 7 => (0, 9)
  | 8 => (0, 2)
  | 9 => (0, 2)
  | 10 => (0, 15)
  | 11 => (0, 4095)
  | 12 => (0, 4095)
  | _ => (-2147483648, 2147483647)
def rgO3 : Nat → Int × Int
  | 2 => (0, 1201)
  | 3 => (0, 1201)
  | 4 => (0, 5)
  | 5 => (-99, 99)
  | 6 => (0, 1023)
  | _ => (-2147483648, 2147483647)
def rgO4 : Nat → Int × Int
  | 5 => (0, 1)
  | 6 => (0, 999)
  | _ => (-2147483648, 2147483647)
def rgO5 : Nat → Int × Int
  | 5 => (0, 4)
  | 6 => (0, 2)
  | 7 => (0, 8)
  | 8 => (0, 4096)
  | 9 => (0, 1)
  | 14 => (0, 4096)
  | 15 => (0, 4096)
  | 16 => (-1, 59)
  | _ => (-2147483648, 2147483647)
def rgO6 : Nat → Int × Int
  | 6 => (0, 4096)
  | 7 => (0, 1)
  | 9 => (0, 1)
  | _ => (-2147483648, 2147483647)
def rgO7 : Nat → Int × Int
  | 6 => (0, 3000)
  | 7 => (0, 1)
  | _ => (-2147483648, 2147483647)
def rgO8 : Nat → Int × Int
  | 2 => (0, 1201)
  | _ => (-2147483648, 2147483647)
def rgO10 : Nat → Int × Int
  | 1 => (0, 1200)
  | _ => (-2147483648, 2147483647)
def rgO11 : Nat → Int × Int
  | 8 => (0, 172032)
  | _ => (-2147483648, 2147483647)
def rgO13 : Nat → Int × Int
  | 1 => (0, 1)
  | 3 => (0, 64)
  | 7 => (0, 999)
  | _ => (-2147483648, 2147483647)
def rgO14 : Nat → Int × Int
  | 0 => (0, 3000)
  | _ => (-2147483648, 2147483647)
def rgO15 : Nat → Int × Int
  | 0 => (0, 8)
  | 1 => (0, 8)
  | 2 => (0, 12)
  | 10 => (-1, 11)
  | 11 => (-1, 11)
  | 12 => (-1, 11)
  | 15 => (0, 1)
  | 16 => (0, 1)
  | 17 => (0, 1)
  | 18 => (0, 1)
  | 19 => (0, 4095)
  | 20 => (0, 9)
  | 22 => (0, 2)
  | 23 => (0, 2)
  | _ => (-2147483648, 2147483647)
def rgO16 : Nat → Int × Int
  | 1 => (0, 1200)
  | 3 => (0, 256)
  | 6 => (0, 5)
  | 7 => (0, 1200)
  | 8 => (0, 1200)
  | 10 => (0, 1023)
  | 11 => (3, 8)
  | 12 => (3, 8)
  | 13 => (9, 64)
  | 18 => (0, 1200)
  | 19 => (0, 1200)
  | 20 => (0, 63)
  | 23 => (-7, 7)
  | 24 => (-7, 7)
  | 29 => (0, 2)
  | 36 => (0, 256)
  | 44 => (0, 3000)
  | 49 => (0, 4096)
  | 50 => (0, 4096)
  | 62 => (0, 1)
  | 63 => (0, 1)
  | 64 => (0, 59)
  | 66 => (0, 3)
  | 67 => (0, 2)
  | 68 => (0, 4)
  | 70 => (0, 3000)
  | _ => (-2147483648, 2147483647)
def rgI : Nat → Nat → Int × Int
  | 1, i => rgO1 i
  | 2, i => rgO2 i
  | 3, i => rgO3 i
  | 4, i => rgO4 i
  | 5, i => rgO5 i
  | 6, i => rgO6 i
  | 7, i => rgO7 i
  | 8, i => rgO8 i
  | 10, i => rgO10 i
  | 11, i => rgO11 i
  | 13, i => rgO13 i
  | 14, i => rgO14 i
  | 15, i => rgO15 i
  | 16, i => rgO16 i
  | 20, _ => (0, 33554431)
  | 21, _ => (0, 600000)
  | 22, _ => (0, 1073741824)
  | 23, _ => (0, 2047)
  | 24, _ => (-4000000, 4000000)
  | 26, _ => (0, 599999)
  | 27, _ => (0, 255)
  | 29, _ => (0, 8)
  | 30, _ => (0, 11)
  | 31, _ => (0, 6)
  | 32, _ => (0, 7)
  | 33, _ => (0, 7)
  | 34, _ => (-2, 23)
  | 36, _ => (-1, 63)
  | 38, _ => (0, 9)
  | 41, _ => (0, 6)
  | 42, _ => (0, 200000)
  | 45, _ => (0, 4095)
  | 49, _ => (0, 255)
  | 50, _ => (0, 172032)
  | 51, _ => (0, 32767)
  | 56, _ => (0, 7)
  | 58, _ => (0, 1)
  | 60, _ => (0, 4095)
  | 61, _ => (-1, 300)
  | 62, _ => (0, 24)
  | 63, _ => (0, 63)
  | 64, _ => (0, 16)
  | 65, _ => (0, 9)
  | 66, _ => (-1, 63)
  | 67, _ => (0, 63)
  | 68, _ => (0, 11)
  | 69, _ => (-1, 11)
  | 70, _ => (-1, 11)
  | 71, _ => (0, 3)
  | 72, _ => (0, 63)
  | 73, _ => (0, 122)
  | 74, _ => (0, 8)
  | 75, _ => (0, 63)
  | 76, _ => (-7, 7)
  | 77, _ => (-7, 7)
  | 78, _ => (0, 7)
  | 79, _ => (0, 8)
  | 80, _ => (0, 11)
  | 81, _ => (0, 6)
  | 82, _ => (-128, 127)
  | 83, _ => (-128, 127)
  | 87, _ => (-1, 95)
  | 88, _ => (0, 7)
  | 89, _ => (0, 1)
  | 93, _ => (0, 2999)
  | 94, _ => (-1, 300)
  | 96, _ => (-128, 127)
  | 97, _ => (0, 2999)
  | 98, _ => (-128, 127)
  | 99, _ => (0, 5)
  | 100, _ => (0, 24)
  | 101, _ => (0, 600000)
  | 102, _ => (-1000000, 3000000)
  | 104, _ => (0, 1500000)
  | 107, _ => (0, 4096)
  | 108, _ => (0, 24)
  | 109, _ => (0, 63)
  | 110, _ => (0, 63)
  | 111, _ => (0, 2999)
  | _, _ => (-2147483648, 2147483647)
def rfK : Nat → Nat → Nat
  | 1, 0 => 2
  | 1, 1 => 11
  | 1, 2 => 6
  | 1, 3 => 4
  | 1, 4 => 20
  | 1, 5 => 21
  | 1, 6 => 22
  | 1, 7 => 23
  | 1, 11 => 24
  | 1, 12 => 25
  | 1, 13 => 26
  | 2, 14 => 27
  | 2, 15 => 28
  | 2, 16 => 29
  | 2, 17 => 30
  | 2, 18 => 31
  | 2, 19 => 32
  | 2, 20 => 33
  | 4, 0 => 34
  | 4, 1 => 35
  | 4, 2 => 36
  | 4, 3 => 37
  | 4, 4 => 38
  | 5, 0 => 6
  | 5, 1 => 39
  | 5, 2 => 40
  | 5, 3 => 41
  | 5, 4 => 42
  | 5, 10 => 43
  | 5, 11 => 44
  | 5, 12 => 45
  | 5, 13 => 46
  | 6, 0 => 2
  | 6, 1 => 11
  | 6, 2 => 47
  | 6, 3 => 4
  | 7, 0 => 2
  | 7, 1 => 11
  | 7, 2 => 6
  | 7, 3 => 4
  | 7, 4 => 4
  | 7, 5 => 48
  | 8, 0 => 2
  | 9, 0 => 2
  | 9, 1 => 6
  | 9, 2 => 4
  | 9, 3 => 10
  | 10, 0 => 49
  | 11, 0 => 50
  | 11, 1 => 51
  | 11, 2 => 52
  | 11, 3 => 53
  | 11, 4 => 54
  | 11, 5 => 55
  | 11, 6 => 56
  | 12, 0 => 10
  | 12, 1 => 10
  | 12, 2 => 2
  | 12, 3 => 2
  | 12, 4 => 3
  | 12, 5 => 11
  | 12, 6 => 6
  | 12, 7 => 8
  | 12, 8 => 9
  | 12, 9 => 7
  | 12, 10 => 1
  | 12, 11 => 5
  | 12, 12 => 47
  | 12, 13 => 57
  | 12, 14 => 58
  | 12, 15 => 59
  | 12, 16 => 60
  | 12, 17 => 61
  | 13, 0 => 62
  | 13, 4 => 63
  | 13, 5 => 64
  | 13, 6 => 65
  | 14, 1 => 66
  | 14, 2 => 67
  | 14, 3 => 68
  | 14, 4 => 69
  | 14, 5 => 70
  | 14, 6 => 71
  | 14, 7 => 72
  | 15, 3 => 73
  | 15, 4 => 74
  | 15, 5 => 75
  | 15, 6 => 76
  | 15, 7 => 77
  | 15, 8 => 78
  | 15, 9 => 79
  | 15, 13 => 80
  | 15, 14 => 81
  | 16, 0 => 82
  | 16, 2 => 83
  | 16, 4 => 15
  | 16, 5 => 15
  | 16, 14 => 84
  | 16, 15 => 85
  | 16, 21 => 13
  | 16, 22 => 86
  | 16, 25 => 87
  | 16, 26 => 88
  | 16, 27 => 89
  | 16, 28 => 13
  | 16, 30 => 14
  | 16, 31 => 14
  | 16, 32 => 13
  | 16, 33 => 90
  | 16, 34 => 91
  | 16, 35 => 13
  | 16, 37 => 92
  | 16, 38 => 93
  | 16, 39 => 94
  | 16, 40 => 95
  | 16, 41 => 96
  | 16, 42 => 97
  | 16, 43 => 98
  | 16, 45 => 13
  | 16, 46 => 99
  | 16, 47 => 100
  | 16, 48 => 101
  | 16, 51 => 102
  | 16, 53 => 104
  | 16, 54 => 105
  | 16, 55 => 106
  | 16, 56 => 107
  | 16, 57 => 108
  | 16, 58 => 109
  | 16, 60 => 13
  | 16, 61 => 110
  | 16, 69 => 111
  | 39, i => if i < 9 then 4 else 0
  | 40, i => if i < 8 then 47 else 0
  | 57, i => if i < 60 then 4 else 0
  | _, _ => 0
def rfN : Nat → Nat → Nat
  | 3, 0 => 10
  | 3, 1 => 2
  | 6, 4 => 4
  | 6, 5 => 47
  | 8, 1 => 10
  | 11, 7 => 2
  | 16, 17 => 82
  | 16, 52 => 103
  | 59, _ => 4
  | 84, _ => 13
  | 90, _ => 13
  | 91, _ => 14
  | 92, _ => 13
  | 95, _ => 13
  | _, _ => 0
def nid : Nat → Nat → Nat
  | 3, 0 => 1
  | 3, 1 => 2
  | 6, 4 => 3
  | 6, 5 => 4
  | 8, 1 => 5
  | 11, 7 => 6
  | 16, 17 => 7
  | 16, 52 => 8
  | _, _ => 0
def sgl (k : Nat) : Bool := [3, 6, 8, 11, 16].contains k
def inh (k : Nat) : Bool := [2, 4, 10, 13, 14, 15].contains k
def kid : Nat → Nat → Nat
  | 1, 0 => 2102
  | 1, 3 => 1003
  | 6, 0 => 2102
  | 6, 2 => 1502
  | 6, 3 => 1503
  | 7, 0 => 2102
  | 7, 3 => 1603
  | 7, 4 => 1604
  | 8, 0 => 2102
  | 9, 0 => 2102
  | 9, 2 => 1802
  | 9, 3 => 1803
  | 11, 7 => 2102
  | 12, 0 => 2100
  | 12, 1 => 2101
  | 12, 2 => 2102
  | 12, 3 => 2103
  | 12, 12 => 2112
  | 16, 21 => 2521
  | 16, 28 => 2528
  | 16, 30 => 2530
  | 16, 31 => 2531
  | 16, 32 => 2532
  | 16, 35 => 2535
  | 16, 45 => 2545
  | 16, 60 => 2560
  | 39, i => 3100 + i
  | 40, i => 3000 + i
  | 57, i => 3200
  | 59, i => 8000 + i
  | 84, i => 3400
  | 90, i => 3500 + i
  | 91, i => 3600 + i
  | 92, i => 5000 + i
  | 95, i => 11000 + i
  | _, _ => 0
def rln : Nat → Nat
  | 20 => 1024
  | 21 => 1025
  | 22 => 6
  | 23 => 5
  | 27 => 12
  | 28 => 96
  | 29 => 12
  | 30 => 72
  | 31 => 12
  | 32 => 64
  | 33 => 64
  | 34 => 64
  | 35 => 2
  | 36 => 2
  | 37 => 2
  | 38 => 2
  | 39 => 9
  | 40 => 8
  | 41 => 9
  | 42 => 8
  | 43 => 4096
  | 44 => 4096
  | 45 => 4096
  | 46 => 4096
  | 47 => 4096
  | 48 => 3000
  | 50 => 98305
  | 51 => 172032
  | 52 => 172032
  | 53 => 1536
  | 54 => 1536
  | 55 => 64
  | 56 => 512
  | 57 => 60
  | 58 => 60
  | 59 => 2408
  | 60 => 2408
  | 61 => 8
  | 62 => 64
  | 63 => 64
  | 64 => 24
  | 65 => 2
  | 66 => 3000
  | 67 => 3000
  | 68 => 3000
  | 69 => 3000
  | 70 => 3000
  | 71 => 3000
  | 72 => 3000
  | 73 => 12
  | 74 => 12
  | 75 => 96
  | 76 => 96
  | 77 => 96
  | 78 => 96
  | 79 => 96
  | 80 => 72
  | 81 => 12
  | 82 => 1220
  | 83 => 256
  | 84 => 60
  | 85 => 60
  | 86 => 2
  | 87 => 64
  | 88 => 64
  | 89 => 64
  | 90 => 10
  | 91 => 10
  | 92 => 2408
  | 93 => 2408
  | 94 => 8
  | 95 => 3000
  | 96 => 288000
  | 97 => 3000
  | 98 => 256
  | 99 => 4096
  | 100 => 20480
  | 101 => 4096
  | 102 => 600000
  | 103 => 1500000
  | 104 => 4096
  | 105 => 9376
  | 106 => 16384
  | 107 => 16384
  | 108 => 6
  | 109 => 6
  | 110 => 5
  | 111 => 3000
  | _ => 0
def bitJ (x : Int64) (s : Nat) : Bool := x.toBitVec.getLsbD s
def TxR (ρ : Nat → Nat) (h : Hp) : Prop := ∀ t tb, ρ t = 10 → hR h t 0 = some tb → (hI h t 1).toInt ≤ (hN h tb : Int) ∧ hN h tb ≤ 1200
def PsU (ρ : Nat → Nat) (h : Hp) : Prop := ∀ p q i a, i < 3 → ρ p = 4 → ρ q = 4 → hR h p i = some a → hR h q i = some a → p = q
def PsR (ρ : Nat → Nat) (qb : Bool) (h : Hp) : Prop := PsU ρ h ∧ ∀ p on of, ρ p = 4 → hR h p 0 = some on → hR h p 1 = some of → ∀ s, s < 64 → ∀ d, d < 2 → bitJ (hJ h of d) s = true → 0 ≤ (hI h on s).toInt ∧ (hI h on s).toInt % 2 = (d : Int) ∧ SqN qb s
abbrev Cm := (Nat × Nat) × ((Nat → Bool) × ((Nat → Nat) × ((Nat → Nat → Nat → Bool) × Hp)))
abbrev cw (c : Cm) (a : Nat) : Nat := c.2.2.1 a
abbrev cPm (c : Cm) (k w i : Nat) : Bool := c.2.2.2.1 k w i
abbrev c0 (c : Cm) : Hp := c.2.2.2.2
def TH0 (ρ : Nat → Nat) (c : Cm) (h : Hp) : Prop :=
  h.1 = c.1 ∧ (∀ a i, Rg (rgI (ρ a) i).1 (rgI (ρ a) i).2 (hI h a i) ∧ rP (c.2.1 50) (cw c a) (ρ a) i (hI h a i)) ∧ (∀ a i, rfK (ρ a) i ≠ 0 → ∃ r, hR h a i = some r ∧ ρ r = rfK (ρ a) i) ∧ (∀ a i, rfN (ρ a) i ≠ 0 → ∀ r, hR h a i = some r → ρ r = rfN (ρ a) i) ∧ (∀ a, rln (ρ a) ≠ 0 → hN h a = rln (ρ a)) ∧ TxR ρ h ∧ PsR ρ (c.2.1 50) h ∧ (∀ a i, nid (ρ a) i ≠ 0 → c.2.1 (nid (ρ a) i) = true → ∃ r, hR h a i = some r) ∧ (∀ a b, ρ a = ρ b → (sgl (ρ a) = true ∨ ((ρ a = 32 ∨ ρ a = 2) ∧ cw c a = cw c b)) → a = b)
section
variable {ρ : Nat → Nat} {c : Cm} {h : Hp}
theorem thI0 (T : TH0 ρ c h) {a k i : Nat} {lo hi : Int} (e : ρ a = k) (hk : rgI k i = (lo, hi)) : Rg lo hi (hI h a i) := by
  have := (T.2.1 a i).1
  rw [e, hk] at this
  exact this
theorem thR0 (T : TH0 ρ c h) {a k i k2 : Nat} (e : ρ a = k) (hk : rfK k i = k2) (h0 : k2 ≠ 0) : ∃ r, hR h a i = some r ∧ ρ r = k2 := by
  have := T.2.2.1 a i
  rw [e, hk] at this
  exact this h0
theorem thN0 (T : TH0 ρ c h) {a k n : Nat} (e : ρ a = k) (hk : rln k = n) (h0 : n ≠ 0) : hN h a = n := by
  have := T.2.2.2.2.1 a
  rw [e, hk] at this
  exact this h0
theorem th_wI0 (T : TH0 ρ c h) {a k i : Nat} {v : Int32} {lo hi : Int} (e : ρ a = k) (hk : rgI k i = (lo, hi)) (hv : Rg lo hi v) (n1 : k ≠ 10) (n2 : k ≠ 34) (hp : rP (c.2.1 50) (cw c a) k i v) : TH0 ρ c (wI h a i v) := by
  obtain ⟨t1, t2, t3, t4, t5, t6, t7, t8, t9⟩ := T
  refine ⟨t1, ?_, t3, t4, t5, ?_, ?_, t8, t9⟩
  · intro b j
    rw [r_I]
    by_cases q : b = a ∧ j = i
    · rw [if_pos q, q.1, q.2, e, hk]; exact ⟨hv, hp⟩
    · rw [if_neg q]; exact t2 b j
  · intro t tb ht hr
    have : t ≠ a := fun q => n1 (by rw [← e, ← q, ht])
    rw [r_I, if_neg (fun q => this q.1)]
    exact t6 t tb ht hr
  · refine ⟨t7.1, ?_⟩
    intro p on of hp ho hf s hs d hd hb
    have h1 : ρ on = 34 := by
      obtain ⟨r, e1, e2⟩ := t3 p 0 (by rw [hp]; decide)
      have : r = on := by
        have e3 : hR h p 0 = some on := ho
        rw [e1] at e3; exact Option.some.inj e3
      rw [← this, e2, hp]; rfl
    have : on ≠ a := fun q => n2 (by rw [← e, ← q, h1])
    rw [r_I, if_neg (fun q => this q.1)]
    exact t7.2 p on of hp ho hf s hs d hd hb
theorem th_wJ0 (T : TH0 ρ c h) {a k i : Nat} {v : Int64} (e : ρ a = k) (n2 : k ≠ 35) : TH0 ρ c (wJ h a i v) := by
  obtain ⟨t1, t2, t3, t4, t5, t6, t7, t8, t9⟩ := T
  refine ⟨t1, t2, t3, t4, t5, t6, ?_, t8, t9⟩
  refine ⟨t7.1, ?_⟩
  intro p on of hp ho hf s hs d hd hb
  have h1 : ρ of = 35 := by
    obtain ⟨r, e1, e2⟩ := t3 p 1 (by rw [hp]; decide)
    have : r = of := by
      have e3 : hR h p 1 = some of := hf
      rw [e1] at e3; exact Option.some.inj e3
    rw [← this, e2, hp]; rfl
  have : of ≠ a := fun q => n2 (by rw [← e, ← q, h1])
  rw [r_J, if_neg (fun q => this q.1)] at hb
  exact t7.2 p on of hp ho hf s hs d hd hb
theorem thM0 (T : TH0 ρ c h) {a k i j k2 : Nat} (e : ρ a = k) (hk : nid k i = j) (h0 : j ≠ 0) (h2 : rfN k i = k2) (h3 : k2 ≠ 0) (m : c.2.1 j = true) : ∃ r, hR h a i = some r ∧ ρ r = k2 := by
  obtain ⟨t1, t2, t3, t4, t5, t6, t7, t8, t9⟩ := T
  obtain ⟨r, hr⟩ := t8 a i (by rw [e, hk]; exact h0) (by rw [e, hk]; exact m)
  exact ⟨r, hr, by rw [t4 a i (by rw [e, h2]; exact h3) r hr, e, h2]⟩
theorem thRn0 (T : TH0 ρ c h) {a k i k2 r : Nat} (e : ρ a = k) (h2 : rfN k i = k2) (h3 : k2 ≠ 0) (hr : hR h a i = some r) : ρ r = k2 := by
  obtain ⟨t1, t2, t3, t4, t5, t6, t7, t8, t9⟩ := T
  rw [t4 a i (by rw [e, h2]; exact h3) r hr, e, h2]
theorem thE0 (T : TH0 ρ c h) {a k n k2 : Nat} {x : Int32} {b : Int} (e : ρ a = k) (hx : Rg 0 b x) (hb : b < (n : Int)) (hk : ∀ i, i < n → rfK k i = k2) (h0 : k2 ≠ 0) : ∃ r, hR h a x.toNatClampNeg = some r ∧ ρ r = k2 := by
  have hi : x.toNatClampNeg < n := by
    obtain ⟨j, ej, tj, hj⟩ := rg_nI hx (Int.le_refl 0)
    have := hx.2
    rw [ej, z_clamp hj]
    omega
  have := T.2.2.1 a x.toNatClampNeg
  rw [e, hk _ hi] at this
  exact this h0
def nst (c : Cm) (j : Nat) : Cm := (c.1, (fun i => i == j || c.2.1 i, c.2.2))
theorem nst_s {j : Nat} : (nst c j).2.1 j = true := by simp [nst]
theorem nst_o {i j : Nat} (m : c.2.1 i = true) : (nst c j).2.1 i = true := by simp [nst, m]
theorem nid50 : ∀ k i, nid k i ≠ 50 := by
  intro k i
  unfold nid
  split <;> decide
theorem nst50 {j : Nat} (n : j ≠ 50) : (nst c j).2.1 50 = c.2.1 50 := by
  show (50 == j || c.2.1 50) = c.2.1 50
  rw [beq_eq_false_iff_ne.mpr (fun z => n z.symm), Bool.false_or]
theorem th_un0 {j : Nat} (n : j ≠ 50) (T : TH0 ρ (nst c j) h) : TH0 ρ c h := by
  obtain ⟨t1, t2, t3, t4, t5, t6, t7, t8, t9⟩ := T
  rw [nst50 n] at t2 t7
  exact ⟨t1, t2, t3, t4, t5, t6, t7, fun a i h0 hm => t8 a i h0 (nst_o hm), t9⟩
/-- a reference that may be null at first is set -/
theorem th_wR0 (T : TH0 ρ c h) {a k i j k2 q : Nat} (e : ρ a = k) (hk : nid k i = j) (h0 : j ≠ 0) (h2 : rfN k i = k2) (hq : ρ q = k2) (hs : sgl k = true) (hi : ∀ k' i', nid k' i' = j → k' = k ∧ i' = i) (n1 : k ≠ 10) (n2 : k ≠ 4) (n3 : rfK k i = 0) : TH0 ρ (nst c j) (wR h a i (some q)) := by
  obtain ⟨t1, t2, t3, t4, t5, t6, t7, t8, t9⟩ := T
  have n50 : (nst c j).2.1 50 = c.2.1 50 := nst50 (by rw [← hk]; exact nid50 k i)
  rw [← n50] at t2 t7
  refine ⟨t1, t2, ?_, ?_, t5, ?_, ?_, ?_, t9⟩
  · intro b l hb
    rw [r_R, if_neg (fun w => hb (by rw [w.1, w.2, e, n3]))]
    exact t3 b l hb
  · intro b l hb r hr
    rw [r_R] at hr
    by_cases w : b = a ∧ l = i
    · rw [if_pos w] at hr
      rw [← Option.some.inj hr, w.1, w.2, e, h2, hq]
    · rw [if_neg w] at hr
      exact t4 b l hb r hr
  · intro t tb ht hr
    rw [r_R, if_neg (fun w => n1 (by rw [← e, ← w.1, ht]))] at hr
    exact t6 t tb ht hr
  · refine ⟨?_, ?_⟩
    · intro p q i' a' hi' hp hq h1 h2
      rw [r_R, if_neg (fun w => n2 (by rw [← e, ← w.1, hp]))] at h1
      rw [r_R, if_neg (fun w => n2 (by rw [← e, ← w.1, hq]))] at h2
      exact t7.1 p q i' a' hi' hp hq h1 h2
    · intro p on of hp ho hf
      rw [r_R, if_neg (fun w => n2 (by rw [← e, ← w.1, hp]))] at ho hf
      exact t7.2 p on of hp ho hf
  · intro b l hb hm
    rw [r_R]
    by_cases w : b = a ∧ l = i
    · rw [if_pos w]; exact ⟨q, rfl⟩
    · rw [if_neg w]
      apply t8 b l hb
      have hn : nid (ρ b) l ≠ j := fun z => by
        obtain ⟨z1, z2⟩ := hi _ _ z
        exact w ⟨t9 b a (by rw [z1, e]) (Or.inl (by rw [z1]; exact hs)), z2⟩
      have : ((nid (ρ b) l == j) || c.2.1 (nid (ρ b) l)) = true := hm
      simpa [hn] using this
theorem rg_he {h2 : Hp} {a i : Nat} {lo hi : Int} (e : h2 = h) (f : Rg lo hi (hI h a i)) : Rg lo hi (hI h2 a i) := e ▸ f
theorem rg_hw {h2 : Hp} {a i b j : Nat} {v : Int32} {lo hi : Int} (e : h2 = wI h b j v) (n : ¬ (a = b ∧ i = j)) (f : Rg lo hi (hI h a i)) : Rg lo hi (hI h2 a i) := by
  rw [e, r_I, if_neg n]; exact f
theorem rg_hj {h2 : Hp} {a i b j : Nat} {v : Int64} {lo hi : Int} (e : h2 = wJ h b j v) (f : Rg lo hi (hI h a i)) : Rg lo hi (hI h2 a i) := by
  rw [e]; exact f
theorem rg_hs {h2 : Hp} {a i : Nat} {v : Int32} {lo hi : Int} (e : h2 = wI h a i v) (f : Rg lo hi v) : Rg lo hi (hI h2 a i) := by
  rw [e, r_I, if_pos ⟨rfl, rfl⟩]; exact f
theorem ne_r {a b k l : Nat} (e : ρ a = k) (g : ρ b = l) (n : k ≠ l) {P : Prop} : ¬ (a = b ∧ P) := fun q => n (by rw [← e, ← g, q.1])
end
-- what may be written: by role, holder and place; all else is as it was in the heap c0
def mS (S : List (Nat × Nat)) (k i : Nat) : Bool := S.any fun p => p.1 == k && (p.2 == 999 || p.2 == i)
def pmA (c : Cm) (S : List (Nat × Nat)) : Prop := ∀ w k i, mS S k i = true → cPm c k w i = true
def pmO (c : Cm) (w : Nat) (S : List (Nat × Nat)) : Prop := ∀ k i, mS S k i = true → cPm c k w i = true
def sS (S R : List (Nat × Nat)) : Bool := S.all fun p => R.any fun q => q.1 == p.1 && (q.2 == 999 || q.2 == p.2)
theorem mS_s {S R : List (Nat × Nat)} (e : sS S R = true) {k i : Nat} (m : mS S k i = true) : mS R k i = true := by
  unfold mS at m ⊢
  unfold sS at e
  rw [List.any_eq_true] at m ⊢
  rw [List.all_eq_true] at e
  obtain ⟨p, hp, hq⟩ := m
  have := e p hp
  rw [List.any_eq_true] at this
  obtain ⟨q, hq1, hq2⟩ := this
  refine ⟨q, hq1, ?_⟩
  simp only [Bool.and_eq_true, Bool.or_eq_true, beq_iff_eq] at hq hq2 ⊢
  refine ⟨by omega, ?_⟩
  rcases hq.2 with h1 | h1
  · rcases hq2.2 with h2 | h2
    · exact Or.inl h2
    · exact Or.inl (by omega)
  · rcases hq2.2 with h2 | h2
    · exact Or.inl h2
    · exact Or.inr (by omega)
theorem pmA_s {c : Cm} {S R : List (Nat × Nat)} (h : pmA c R) (e : sS S R = true) : pmA c S := fun w k i m => h w k i (mS_s e m)
theorem pmO_s {c : Cm} {w : Nat} {S R : List (Nat × Nat)} (h : pmO c w R) (e : sS S R = true) : pmO c w S := fun k i m => h k i (mS_s e m)
theorem pmO_e {c : Cm} {v w : Nat} {S R : List (Nat × Nat)} (q : v = w) (h : pmO c w R) (e : sS S R = true) : pmO c v S := fun k i m => q ▸ h k i (mS_s e m)
theorem pmO_a {c : Cm} {w : Nat} {S R : List (Nat × Nat)} (h : pmA c R) (e : sS S R = true) : pmO c w S := fun k i m => h w k i (mS_s e m)
theorem pm_a {c : Cm} {S : List (Nat × Nat)} (h : pmA c S) {k w i : Nat} (m : mS S k i = true) : cPm c k w i = true := h w k i m
theorem pm_o {c : Cm} {v w : Nat} {S : List (Nat × Nat)} (h : pmO c w S) (q : v = w) {k i : Nat} (m : mS S k i = true) : cPm c k v i = true := q ▸ h k i m
def OwR (ρ : Nat → Nat) (c : Cm) (h : Hp) : Prop := (∀ a i r, inh (ρ a) = true → hR h a i = some r → cw c r = cw c a) ∧ (∀ a i r, kid (ρ a) i ≠ 0 → hR h a i = some r → cw c r = kid (ρ a) i) ∧ (∀ a, ρ a ≠ 0 → a < c.1.1) ∧ ∀ a i r, ρ a ≠ 0 → hR h a i = some r → r < c.1.1
def Fr (ρ : Nat → Nat) (c : Cm) (g h : Hp) : Prop := (∀ a i, ρ a ≠ 0 → cPm c (ρ a) (cw c a) i = false → hI h a i = hI g a i ∧ hJ h a i = hJ g a i ∧ hR h a i = hR g a i) ∧ ∀ a, ρ a ≠ 0 → hN h a = hN g a
/-- the same of the addresses that stood at the first heap (what is made later is free) -/
def FrG (ρ : Nat → Nat) (c : Cm) (g h : Hp) : Prop := g.1.1 ≤ h.1.1 ∧ (∀ a i, a < g.1.1 → ρ a ≠ 0 → cPm c (ρ a) (cw c a) i = false → hI h a i = hI g a i ∧ hJ h a i = hJ g a i ∧ hR h a i = hR g a i) ∧ ∀ a, a < g.1.1 → ρ a ≠ 0 → hN h a = hN g a
def TH (ρ : Nat → Nat) (c : Cm) (h : Hp) : Prop := TH0 ρ c h ∧ OwR ρ c h ∧ FrG ρ c (c0 c) h
section
variable {ρ : Nat → Nat} {c : Cm} {h : Hp}
theorem fu_wI {g : Hp} (f : Fr ρ c g h) {a k i : Nat} {v : Int32} (e : ρ a = k) (hw : cPm c k (cw c a) i = true) : Fr ρ c g (wI h a i v) := by
  refine ⟨fun b j hb hs => ?_, f.2⟩
  rw [r_I, if_neg (fun q => by rw [q.1, q.2, e, hw] at hs; exact absurd hs (by decide))]
  exact f.1 b j hb hs
theorem fu_wJ {g : Hp} (f : Fr ρ c g h) {a k i : Nat} {v : Int64} (e : ρ a = k) (hw : cPm c k (cw c a) i = true) : Fr ρ c g (wJ h a i v) := by
  refine ⟨fun b j hb hs => ?_, f.2⟩
  rw [r_J, if_neg (fun q => by rw [q.1, q.2, e, hw] at hs; exact absurd hs (by decide))]
  exact f.1 b j hb hs
theorem fu_wR {g : Hp} (f : Fr ρ c g h) {a k i : Nat} {v : Option Nat} (e : ρ a = k) (hw : cPm c k (cw c a) i = true) : Fr ρ c g (wR h a i v) := by
  refine ⟨fun b j hb hs => ?_, f.2⟩
  rw [r_R, if_neg (fun q => by rw [q.1, q.2, e, hw] at hs; exact absurd hs (by decide))]
  exact f.1 b j hb hs
theorem fr_wI {g : Hp} (f : FrG ρ c g h) {a k i : Nat} {v : Int32} (e : ρ a = k) (hw : cPm c k (cw c a) i = true) : FrG ρ c g (wI h a i v) := by
  refine ⟨f.1, fun b j l hb hs => ?_, f.2.2⟩
  rw [r_I, if_neg (fun q => by rw [q.1, q.2, e, hw] at hs; exact absurd hs (by decide))]
  exact f.2.1 b j l hb hs
theorem fr_wJ {g : Hp} (f : FrG ρ c g h) {a k i : Nat} {v : Int64} (e : ρ a = k) (hw : cPm c k (cw c a) i = true) : FrG ρ c g (wJ h a i v) := by
  refine ⟨f.1, fun b j l hb hs => ?_, f.2.2⟩
  rw [r_J, if_neg (fun q => by rw [q.1, q.2, e, hw] at hs; exact absurd hs (by decide))]
  exact f.2.1 b j l hb hs
theorem fr_wR {g : Hp} (f : FrG ρ c g h) {a k i : Nat} {v : Option Nat} (e : ρ a = k) (hw : cPm c k (cw c a) i = true) : FrG ρ c g (wR h a i v) := by
  refine ⟨f.1, fun b j l hb hs => ?_, f.2.2⟩
  rw [r_R, if_neg (fun q => by rw [q.1, q.2, e, hw] at hs; exact absurd hs (by decide))]
  exact f.2.1 b j l hb hs
theorem thI (T : TH ρ c h) {a k i : Nat} {lo hi : Int} (e : ρ a = k) (hk : rgI k i = (lo, hi)) : Rg lo hi (hI h a i) := thI0 T.1 e hk
theorem thL (T : TH ρ c h) {a i : Nat} (e : ρ a = 73) : LT (hI h a i) := (T.1.2.1 a i).2.2.1 e
theorem thF (T : TH ρ c h) {a i : Nat} (e : ρ a = 75) : FL (hI h a i) := (T.1.2.1 a i).2.2.2.1 e
theorem thD (T : TH ρ c h) {a i : Nat} (e : ρ a = 32) : (hI h a i).toInt ≤ (i : Int) ∧ (c.2.1 50 = true → cw c a = 2102 → i < 64 → (i : Int) ≤ 56 + (hI h a i).toInt) := (T.1.2.1 a i).2.2.2.2.1 e
theorem thW (T : TH ρ c h) {a i : Nat} (e : ρ a = 51) : SqB (c.2.1 50) ((hI h a i) &&& (63 : Int32)) := (T.1.2.1 a i).2.2.2.2.2.1 e
theorem thT (T : TH ρ c h) {a i : Nat} (e : ρ a = 56) (p : 0 < (hI h a i).toInt) : SqN (c.2.1 50) (i / 8) := (T.1.2.1 a i).2.2.2.2.2.2.1 e p
theorem thKy (T : TH ρ c h) {a i : Nat} (e : ρ a = 20) : KyX (hI h a i) := (T.1.2.1 a i).2.2.2.2.2.2.2 e
theorem thG (T : TH ρ c h) {a i : Nat} (e : ρ a = 47) : GMq (c.2.1 50) (hI h a i) := (T.1.2.1 a i).2.1 (Or.inl e)
theorem thG8 (T : TH ρ c h) {a i : Nat} (e : ρ a = 48) : GMq (c.2.1 50) (hI h a i) := (T.1.2.1 a i).2.1 (Or.inr e)
theorem thR (T : TH ρ c h) {a k i k2 : Nat} (e : ρ a = k) (hk : rfK k i = k2) (h0 : k2 ≠ 0) : ∃ r, hR h a i = some r ∧ ρ r = k2 := thR0 T.1 e hk h0
theorem thN (T : TH ρ c h) {a k n : Nat} (e : ρ a = k) (hk : rln k = n) (h0 : n ≠ 0) : hN h a = n := thN0 T.1 e hk h0
theorem th_wI (T : TH ρ c h) {a k i : Nat} {v : Int32} {lo hi : Int} (e : ρ a = k) (hk : rgI k i = (lo, hi)) (hv : Rg lo hi v) (n1 : k ≠ 10) (n2 : k ≠ 34) (hw : cPm c k (cw c a) i = true := by exact pm_a (by assumption) rfl) (hp : rP (c.2.1 50) (cw c a) k i v := by exact rp0 rfl) : TH ρ c (wI h a i v) := ⟨th_wI0 T.1 e hk hv n1 n2 hp, T.2.1, fr_wI T.2.2 e hw⟩
theorem th_wJ (T : TH ρ c h) {a k i : Nat} {v : Int64} (e : ρ a = k) (n2 : k ≠ 35) (hw : cPm c k (cw c a) i = true := by exact pm_a (by assumption) rfl) : TH ρ c (wJ h a i v) := ⟨th_wJ0 T.1 e n2, T.2.1, fr_wJ T.2.2 e hw⟩
theorem thM (T : TH ρ c h) {a k i j k2 : Nat} (e : ρ a = k) (hk : nid k i = j) (h0 : j ≠ 0) (h2 : rfN k i = k2) (h3 : k2 ≠ 0) (m : c.2.1 j = true) : ∃ r, hR h a i = some r ∧ ρ r = k2 := thM0 T.1 e hk h0 h2 h3 m
theorem thRn (T : TH ρ c h) {a k i k2 r : Nat} (e : ρ a = k) (h2 : rfN k i = k2) (h3 : k2 ≠ 0) (hr : hR h a i = some r) : ρ r = k2 := thRn0 T.1 e h2 h3 hr
theorem thE (T : TH ρ c h) {a k n k2 : Nat} {x : Int32} {b : Int} (e : ρ a = k) (hx : Rg 0 b x) (hb : b < (n : Int)) (hk : ∀ i, i < n → rfK k i = k2) (h0 : k2 ≠ 0) : ∃ r, hR h a x.toNatClampNeg = some r ∧ ρ r = k2 := thE0 T.1 e hx hb hk h0
theorem th_q (T : TH ρ c h) (g : ∀ a, ρ a = 32 → cw c a = 2102 → ∀ i : Nat, i < 64 → (i : Int) ≤ 56 + (hI h a i).toInt) : TH ρ (nst c 50) h := by
  obtain ⟨⟨t1, t2, t3, t4, t5, t6, t7, t8, t9⟩, t10⟩ := T
  have q1 : (nst c 50).2.1 50 = true := nst_s
  refine ⟨⟨t1, fun a i => ⟨(t2 a i).1, ?_⟩, t3, t4, t5, t6, ⟨t7.1, fun p on of hp ho hf s hs d hd hb => ?_⟩, fun a i hk hm => ?_, t9⟩, t10⟩
  · obtain ⟨p1, p2, p3, p4, p5, p6, p7⟩ := (t2 a i).2
    rw [q1]
    exact ⟨fun e => ⟨(p1 e).1, Or.inl rfl, Or.inl rfl⟩, p2, p3, fun e => ⟨(p4 e).1, fun _ ew li => g a e ew i li⟩, fun e => Or.inl rfl, fun e _ => Or.inl rfl, p7⟩
  · have := t7.2 p on of hp ho hf s hs d hd hb
    exact ⟨this.1, this.2.1, Or.inl q1⟩
  · refine t8 a i hk ?_
    have z : (nid (ρ a) i == 50 || c.2.1 (nid (ρ a) i)) = true := hm
    rw [beq_eq_false_iff_ne.mpr (nid50 _ _), Bool.false_or] at z
    exact z
theorem th_un {j : Nat} (T : TH ρ (nst c j) h) (n : j ≠ 50 := by decide) : TH ρ c h := ⟨th_un0 n T.1, T.2⟩
theorem th_wR (T : TH ρ c h) {a k i j k2 q : Nat} (e : ρ a = k) (hk : nid k i = j) (h0 : j ≠ 0) (h2 : rfN k i = k2) (h3 : k2 ≠ 0) (hq : ρ q = k2) (hs : sgl k = true) (hi : ∀ k' i', nid k' i' = j → k' = k ∧ i' = i) (n1 : k ≠ 10) (n2 : k ≠ 4) (n3 : rfK k i = 0) (n4 : inh k = false) (n5 : kid k i ≠ 0 → cw c q = kid k i) (hw : cPm c k (cw c a) i = true) : TH ρ (nst c j) (wR h a i (some q)) := by
  refine ⟨th_wR0 T.1 e hk h0 h2 hq hs hi n1 n2 n3, ⟨fun b l r hb hr => ?_, fun b l r hb hr => ?_, T.2.1.2.2.1, fun b l r hb hr => ?_⟩, fr_wR T.2.2 e hw⟩
  · rw [r_R, if_neg (fun w => by rw [w.1, e, n4] at hb; exact absurd hb (by decide))] at hr
    exact T.2.1.1 b l r hb hr
  · rw [r_R] at hr
    by_cases w : b = a ∧ l = i
    · rw [if_pos w] at hr
      rw [w.1, w.2, e] at hb
      rw [← Option.some.inj hr, w.1, w.2, e]
      exact n5 hb
    · rw [if_neg w] at hr
      exact T.2.1.2.1 b l r hb hr
  · rw [r_R] at hr
    by_cases w : b = a ∧ l = i
    · rw [if_pos w] at hr
      rw [← Option.some.inj hr]
      exact T.2.1.2.2.1 q (by rw [hq]; exact h3)
    · rw [if_neg w] at hr
      exact T.2.1.2.2.2 b l r hb hr
theorem th_ih (T : TH ρ c h) {a k i r w : Nat} (e : ρ a = k) (hk : inh k = true) (hr : hR h a i = some r) (ew : cw c a = w) : cw c r = w := (T.2.1.1 a i r (by rw [e]; exact hk) hr).trans ew
theorem th_id (T : TH ρ c h) {a k i r w : Nat} (e : ρ a = k) (hr : hR h a i = some r) (hk : kid k i = w) (h0 : w ≠ 0) : cw c r = w := by
  have := T.2.1.2.1 a i r (by rw [e, hk]; exact h0) hr
  rw [this, e, hk]
theorem th_eq {h2 : Hp} (e : h2 = h) (T : TH ρ c h) : TH ρ c h2 := e ▸ T
-- the frame of a call
theorem fr_t {g1 g2 g3 : Hp} (f : FrG ρ c g1 g2) (g : FrG ρ c g2 g3) : FrG ρ c g1 g3 := ⟨Nat.le_trans f.1 g.1, fun a i l h0 hs => by
  obtain ⟨a1, a2, a3⟩ := f.2.1 a i l h0 hs
  obtain ⟨b1, b2, b3⟩ := g.2.1 a i (Nat.lt_of_lt_of_le l f.1) h0 hs
  exact ⟨b1.trans a1, b2.trans a2, b3.trans a3⟩, fun a l h0 => (g.2.2 a (Nat.lt_of_lt_of_le l f.1) h0).trans (f.2.2 a l h0)⟩
def cat (c : Cm) (S : Nat → Nat → Nat → Bool) (h : Hp) : Cm := (c.1, (c.2.1, (c.2.2.1, (S, h))))
theorem th_in (S : Nat → Nat → Nat → Bool) (T : TH ρ c h) : TH ρ (cat c S h) h := ⟨T.1, T.2.1, Nat.le_refl _, fun _ _ _ _ _ => ⟨rfl, rfl, rfl⟩, fun _ _ _ => rfl⟩
theorem th_out {S : Nat → Nat → Nat → Bool} {h2 : Hp} (T : TH ρ c h) (hs : ∀ k w i, S k w i = true → cPm c k w i = true) (T2 : TH ρ (cat c S h) h2) : TH ρ c h2 := ⟨T2.1, T2.2.1, fr_t T.2.2 ⟨T2.2.2.1, fun a i l h0 h1 => T2.2.2.2.1 a i l h0 (by
  cases q : S (ρ a) (cw c a) i with
  | false => exact q
  | true => exact absurd (hs _ _ _ q) (by rw [h1]; decide)), T2.2.2.2.2⟩⟩
theorem fr_u {S : Nat → Nat → Nat → Bool} {h2 : Hp} (T : TH ρ c h) (f : FrG ρ (cat c S h) h h2) : Fr ρ (cat c S h) h h2 := by
  have lt : ∀ a, ρ a ≠ 0 → a < h.1.1 := fun a ha => by rw [T.1.1]; exact T.2.1.2.2.1 a ha
  exact ⟨fun a i h0 hs => f.2.1 a i (lt a h0) h0 hs, fun a h0 => f.2.2 a (lt a h0) h0⟩
end
abbrev ZI (ρ : Nat → Nat) (c : Cm) (lo hi : Int) : Int32 × Hp → Prop := fun o => TH ρ c o.2 ∧ Rg lo hi o.1
abbrev ZJ (ρ : Nat → Nat) (c : Cm) : Int64 × Hp → Prop := fun o => TH ρ c o.2
abbrev ZV (ρ : Nat → Nat) (c : Cm) : Hp → Prop := fun o => TH ρ c o
abbrev ZI0 (h : Hp) (lo hi : Int) : Int32 × Hp → Prop := fun o => o.2 = h ∧ Rg lo hi o.1
abbrev ZP0 (h : Hp) (lo hi : Int) (s : Int32) (P : Prop) : Int32 × Hp → Prop := fun o => o.2 = h ∧ Rg lo hi o.1 ∧ (¬ o.1 = s → P)
abbrev ZJ0 (h : Hp) : Int64 × Hp → Prop := fun o => o.2 = h
section
variable {ρ : Nat → Nat} {c : Cm} {β : Type} {Q : β → Prop}
theorem s_h {h : Hp} {k : Hp → Option β} (T : TH ρ c h) (H : ∀ h, TH ρ c h → Sat (k h) Q) : Sat (nm h k) Q := H h T
theorem s_q {α : Type} {x : α} {k : α → Option β} (H : ∀ y, y = x → Sat (k y) Q) : Sat (nm x k) Q := H x rfl
theorem s_cI {lo hi : Int} {m : Option (Int32 × Hp)} {k : Int32 × Hp → Option β} (S : Sat m (ZI ρ c lo hi)) (H : ∀ o, TH ρ c o.2 → Rg lo hi o.1 → Sat (k o) Q) : Sat (cl m k) Q := s_cl (s_imp S fun o ho => H o ho.1 ho.2)
theorem s_cJ {m : Option (Int64 × Hp)} {k : Int64 × Hp → Option β} (S : Sat m (ZJ ρ c)) (H : ∀ o, TH ρ c o.2 → Sat (k o) Q) : Sat (cl m k) Q := s_cl (s_imp S fun o ho => H o ho)
theorem s_cV {m : Option Hp} {k : Hp → Option β} (S : Sat m (ZV ρ c)) (H : ∀ o, TH ρ c o → Sat (k o) Q) : Sat (cl m k) Q := s_cl (s_imp S fun o ho => H o ho)
theorem s_hq {h : Hp} {k : Hp → Option β} (T : TH ρ c h) (H : ∀ g, TH ρ c g → g = h → Sat (k g) Q) : Sat (nm h k) Q := H h T rfl
theorem s_cI0 {lo hi : Int} {h : Hp} {m : Option (Int32 × Hp)} {k : Int32 × Hp → Option β} (S : Sat m (ZI0 h lo hi)) (H : ∀ o, o.2 = h → Rg lo hi o.1 → Sat (k o) Q) : Sat (cl m k) Q := s_cl (s_imp S fun o ho => H o ho.1 ho.2)
theorem s_cJ0 {h : Hp} {m : Option (Int64 × Hp)} {k : Int64 × Hp → Option β} (S : Sat m (ZJ0 h)) (H : ∀ o, o.2 = h → Sat (k o) Q) : Sat (cl m k) Q := s_cl (s_imp S fun o ho => H o ho)
theorem s_cP0 {lo hi : Int} {h : Hp} {s : Int32} {P : Prop} {m : Option (Int32 × Hp)} {k : Int32 × Hp → Option β} (S : Sat m (ZP0 h lo hi s P)) (H : ∀ o, o.2 = h → Rg lo hi o.1 → (¬ o.1 = s → P) → Sat (k o) Q) : Sat (cl m k) Q := s_cl (s_imp S fun o ho => H o ho.1 ho.2.1 ho.2.2)
theorem s_pu {e : Int32} {h : Hp} {k : Int32 × Hp → Option β} (H : ∀ y, y = e → Sat (k (y, h)) Q) : Sat (cl (some (e, h)) k) Q := H e rfl
end
def fS (A : List (Nat × Nat)) (L : List (Nat × List (Nat × Nat))) (k w i : Nat) : Bool := mS A k i || L.any fun p => mS p.2 k i && w == p.1
section
variable {ρ : Nat → Nat} {c : Cm} {β : Type} {Q : β → Prop} {A B : List (Nat × Nat)} {L : List (Nat × List (Nat × Nat))} {h h2 : Hp} {t : Nat}
theorem fs_a : pmA (cat c (fS A L) h) A := fun w k i m => by
  show fS A L k w i = true
  unfold fS
  rw [m, Bool.true_or]
theorem fs_o (q : (t, B) ∈ L) : pmO (cat c (fS A L) h) t B := fun k i m => by
  show fS A L k t i = true
  unfold fS
  rw [Bool.or_eq_true, List.any_eq_true]
  exact Or.inr ⟨(t, B), q, by simp [m]⟩
theorem fs_n : ∀ p ∈ ([] : List (Nat × List (Nat × Nat))), pmO c p.1 p.2 := fun p q => absurd q (by simp)
theorem fs_c (h1 : pmO c t B) (h2 : ∀ p ∈ L, pmO c p.1 p.2) : ∀ p ∈ (t, B) :: L, pmO c p.1 p.2 := fun p q => by
  rcases List.mem_cons.mp q with r | r
  · rw [r]; exact h1
  · exact h2 p r
theorem fs_sub (h1 : pmA c A) (h2 : ∀ p ∈ L, pmO c p.1 p.2) : ∀ k w i, fS A L k w i = true → cPm c k w i = true := fun k w i m => by
  unfold fS at m
  rw [Bool.or_eq_true, List.any_eq_true] at m
  rcases m with m | ⟨p, q, m⟩
  · exact h1 w k i m
  · rw [Bool.and_eq_true, beq_iff_eq] at m
    rw [m.2]
    exact h2 p q k i m.1
theorem s_cIf {S : Nat → Nat → Nat → Bool} {lo hi : Int} {m : Option (Int32 × Hp)} {k : Int32 × Hp → Option β} (T : TH ρ c h) (hs : ∀ k w i, S k w i = true → cPm c k w i = true) (Z : Sat m (ZI ρ (cat c S h) lo hi)) (H : ∀ o, TH ρ c o.2 → Rg lo hi o.1 → Fr ρ (cat c S h) h o.2 → Sat (k o) Q) : Sat (cl m k) Q := s_cl (s_imp Z fun o ho => H o (th_out T hs ho.1) ho.2 (fr_u T ho.1.2.2))
theorem s_cJf {S : Nat → Nat → Nat → Bool} {m : Option (Int64 × Hp)} {k : Int64 × Hp → Option β} (T : TH ρ c h) (hs : ∀ k w i, S k w i = true → cPm c k w i = true) (Z : Sat m (ZJ ρ (cat c S h))) (H : ∀ o, TH ρ c o.2 → Fr ρ (cat c S h) h o.2 → Sat (k o) Q) : Sat (cl m k) Q := s_cl (s_imp Z fun o ho => H o (th_out T hs ho) (fr_u T ho.2.2))
theorem s_cVf {S : Nat → Nat → Nat → Bool} {m : Option Hp} {k : Hp → Option β} (T : TH ρ c h) (hs : ∀ k w i, S k w i = true → cPm c k w i = true) (Z : Sat m (ZV ρ (cat c S h))) (H : ∀ o, TH ρ c o → Fr ρ (cat c S h) h o → Sat (k o) Q) : Sat (cl m k) Q := s_cl (s_imp Z fun o ho => H o (th_out T hs ho) (fr_u T ho.2.2))
theorem fr_I {S : Nat → Nat → Nat → Bool} {r k w i : Nat} (f : Fr ρ (cat c S h) h h2) (e : ρ r = k) (h0 : k ≠ 0) (ew : cw c r = w) (hs : S k w i = false) : hI h2 r i = hI h r i := (f.1 r i (by rw [e]; exact h0) (by rw [e]; show S k (cw c r) i = false; rw [ew]; exact hs)).1
theorem fr_R {S : Nat → Nat → Nat → Bool} {r k w i : Nat} (f : Fr ρ (cat c S h) h h2) (e : ρ r = k) (h0 : k ≠ 0) (ew : cw c r = w) (hs : S k w i = false) : hR h2 r i = hR h r i := (f.1 r i (by rw [e]; exact h0) (by rw [e]; show S k (cw c r) i = false; rw [ew]; exact hs)).2.2
theorem fr_J {S : Nat → Nat → Nat → Bool} {r k w i : Nat} (f : Fr ρ (cat c S h) h h2) (e : ρ r = k) (h0 : k ≠ 0) (ew : cw c r = w) (hs : S k w i = false) : hJ h2 r i = hJ h r i := (f.1 r i (by rw [e]; exact h0) (by rw [e]; show S k (cw c r) i = false; rw [ew]; exact hs)).2.1
theorem rg_hi {r i : Nat} {lo hi : Int} (e : hI h2 r i = hI h r i) (f : Rg lo hi (hI h r i)) : Rg lo hi (hI h2 r i) := by rw [e]; exact f
theorem hr_q {r i q : Nat} (e : hR h2 r i = hR h r i) (f : hR h r i = some q) : hR h2 r i = some q := e.trans f
end
