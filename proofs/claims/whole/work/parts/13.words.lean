/-! words of the tables, by their places; numbers; what kinds the cells are -/
def jn {α β : Type} (x : α) (f : α → β) : β := f x
def FU : Nat := 4000
theorem bp {β : Type} {c : Prop} {d : Decidable c} {a b w : β} (h : c) (e : (if c then a else b) = w) : a = w := by rw [if_pos h] at e; exact e
theorem bn {β : Type} {c : Prop} {d : Decidable c} {a b w : β} (h : ¬ c) (e : (if c then a else b) = w) : b = w := by rw [if_neg h] at e; exact e
theorem jpp {α β : Type} {c : Prop} {d : Decidable c} {x y : α} {f : α → β} {w : β} (h : c) (e : jn (if c then x else y) f = w) : jn x f = w := by rw [if_pos h] at e; exact e
theorem jpn {α β : Type} {c : Prop} {d : Decidable c} {x y : α} {f : α → β} {w : β} (h : ¬ c) (e : jn (if c then x else y) f = w) : jn y f = w := by rw [if_neg h] at e; exact e
theorem jbp {α β : Type} {c : Prop} {d : Decidable c} {x y : Option α} {f : α → Option β} {w : Option β} (h : c) (e : Option.bind (if c then x else y) f = w) : Option.bind x f = w := by rw [if_pos h] at e; exact e
theorem jbn {α β : Type} {c : Prop} {d : Decidable c} {x y : Option α} {f : α → Option β} {w : Option β} (h : ¬ c) (e : Option.bind (if c then x else y) f = w) : Option.bind y f = w := by rw [if_neg h] at e; exact e
theorem og {β : Type} {c : Prop} {d : Decidable c} {a : Option β} {w : β} (e : (if c then a else none) = some w) : c ∧ a = some w := by
  by_cases h : c
  · rw [if_pos h] at e; exact ⟨h, e⟩
  · rw [if_neg h] at e; cases e
theorem ogb {α β : Type} {c : Prop} {d : Decidable c} {x : Option α} {f : α → Option β} {w : β} (e : Option.bind (if c then x else none) f = some w) : c ∧ Option.bind x f = some w := by
  by_cases h : c
  · rw [if_pos h] at e; exact ⟨h, e⟩
  · rw [if_neg h] at e; cases e
theorem ob {α β : Type} {x : Option α} {f : α → Option β} {w : β} (e : Option.bind x f = some w) : ∃ a, x = some a ∧ f a = some w := by
  cases x with
  | none => cases e
  | some a => exact ⟨a, rfl, e⟩
theorem obb {α β γ : Type} {x : Option α} {g : α → Option β} {f : β → Option γ} {w : γ} (e : Option.bind (Option.bind x g) f = some w) : ∃ a, x = some a ∧ Option.bind (g a) f = some w := by
  cases x with
  | none => cases e
  | some a => exact ⟨a, rfl, e⟩
theorem jn_cut {α β : Type} {x : α} {f : α → β} {w : β} {P : α → Prop} {Goal : Prop} (_ : jn x f = w) (t : ∀ v, f v = w → P v) (k : (∀ v, jn v f = w → P v) → Goal) : Goal := k (fun v e => t v e)
theorem bd_cut {α β : Type} {x : Option α} {f : α → Option β} {w : Option β} {P : α → Prop} {Goal : Prop} (_ : Option.bind x f = w) (t : ∀ v, f v = w → P v) (k : (∀ v, Option.bind (some v) f = w → P v) → Goal) : Goal := k (fun v e => t v e)
theorem jn_at {α β : Type} {x v : α} {f : α → β} {w : β} (e : v = x) (h : jn x f = w) : f v = w := by rw [e]; exact h
theorem jn_in {α β : Type} {x : α} {f : α → β} {w : β} (h : ∀ v, v = x → f v = w) : jn x f = w := h x rfl
theorem rt0 {α : Type} {v r : α} {σ : Sg} (h : v = r) : (v, σ) = (r, σ) := by rw [h]
theorem rt1 {α : Type} {v r : α} {σ : Sg} (h : some v = some r) : (v, σ) = (r, σ) := by rw [Option.some.inj h]
theorem rt2 {α : Type} {v r : α} (h : some v = some r) : v = r := Option.some.inj h
theorem nb_0 : narrow .boolean (.int 0) = .int 0 := rfl
theorem nb_1 : narrow .boolean (.int 1) = .int 1 := rfl
theorem lc_0 : Int64.ofNat ((0 : Fin 2) : Nat) = 0 := by decide
theorem lc_1 : Int64.ofNat ((1 : Fin 2) : Nat) = 1 := by decide
theorem bp_m2 : (Int8.ofInt (-2)).toInt32 = (-2) := by decide
theorem bp_m3 : (Int8.ofInt (-3)).toInt32 = (-3) := by decide
theorem bp_m4 : (Int8.ofInt (-4)).toInt32 = (-4) := by decide
theorem bp_m5 : (Int8.ofInt (-5)).toInt32 = (-5) := by decide
theorem bp_m6 : (Int8.ofInt (-6)).toInt32 = (-6) := by decide
theorem bp_10 : (Int8.ofInt 10).toInt32 = 10 := by decide
theorem bp_100 : (Int8.ofInt 100).toInt32 = 100 := by decide
theorem bp_125 : (Int8.ofInt 125).toInt32 = 125 := by decide
theorem bp_15 : (Int8.ofInt 15).toInt32 = 15 := by decide
theorem bp_16 : (Int8.ofInt 16).toInt32 = 16 := by decide
theorem bp_20 : (Int8.ofInt 20).toInt32 = 20 := by decide
theorem bp_25 : (Int8.ofInt 25).toInt32 = 25 := by decide
theorem bp_31 : (Int8.ofInt 31).toInt32 = 31 := by decide
theorem bp_32 : (Int8.ofInt 32).toInt32 = 32 := by decide
theorem bp_40 : (Int8.ofInt 40).toInt32 = 40 := by decide
theorem bp_41 : (Int8.ofInt 41).toInt32 = 41 := by decide
theorem bp_45 : (Int8.ofInt 45).toInt32 = 45 := by decide
theorem bp_49 : (Int8.ofInt 49).toInt32 = 49 := by decide
theorem bp_50 : (Int8.ofInt 50).toInt32 = 50 := by decide
theorem bp_6 : (Int8.ofInt 6).toInt32 = 6 := by decide
theorem bp_63 : (Int8.ofInt 63).toInt32 = 63 := by decide
theorem bp_8 : (Int8.ofInt 8).toInt32 = 8 := by decide
theorem bp_9 : (Int8.ofInt 9).toInt32 = 9 := by decide
theorem bp_99 : (Int8.ofInt 99).toInt32 = 99 := by decide
theorem ic_m1 : Int32.ofInt (-1) = (-1) := by decide
theorem ic_0 : Int32.ofInt 0 = 0 := by decide
theorem ic_1 : Int32.ofInt 1 = 1 := by decide
theorem ic_2 : Int32.ofInt 2 = 2 := by decide
theorem ic_3 : Int32.ofInt 3 = 3 := by decide
theorem ic_4 : Int32.ofInt 4 = 4 := by decide
theorem ic_5 : Int32.ofInt 5 = 5 := by decide
theorem nz_125 : ¬ (125 : Int32) = 0 := by decide
theorem nz_2 : ¬ (2 : Int32) = 0 := by decide
theorem nz_25 : ¬ (25 : Int32) = 0 := by decide
theorem nz_45 : ¬ (45 : Int32) = 0 := by decide
theorem nz_5 : ¬ (5 : Int32) = 0 := by decide
theorem nz_625 : ¬ (625 : Int32) = 0 := by decide
theorem nz_9 : ¬ (9 : Int32) = 0 := by decide
theorem sp_1800 : (Int16.ofInt 1800).toInt32 = 1800 := by decide
theorem sp_240 : (Int16.ofInt 240).toInt32 = 240 := by decide
theorem sp_241 : (Int16.ofInt 241).toInt32 = 241 := by decide
theorem sp_242 : (Int16.ofInt 242).toInt32 = 242 := by decide
theorem sp_245 : (Int16.ofInt 245).toInt32 = 245 := by decide
theorem sp_3125 : (Int16.ofInt 3125).toInt32 = 3125 := by decide
theorem sp_625 : (Int16.ofInt 625).toInt32 = 625 := by decide
theorem sp_999 : (Int16.ofInt 999).toInt32 = 999 := by decide
theorem inb_lt {x : Int32} {n : Nat} (h : inb x n) : x.toNatClampNeg < n := by
  have h1 := h.1
  have h2 := h.2
  simp only [Int32.toNatClampNeg]
  omega
theorem kd_0 : kd 0 = (11, 0) := by decide +kernel
theorem ltN_0 : 0 < NN := by decide
theorem kd_1 : kd 1 = (5, 0) := by decide +kernel
theorem ltN_1 : 1 < NN := by decide
theorem kd_2 : kd 2 = (0, 41) := by decide +kernel
theorem ltN_2 : 2 < NN := by decide
theorem kd_3 : kd 3 = (0, 41) := by decide +kernel
theorem ltN_3 : 3 < NN := by decide
theorem kd_4 : kd 4 = (0, 41) := by decide +kernel
theorem ltN_4 : 4 < NN := by decide
theorem kd_5 : kd 5 = (0, 41) := by decide +kernel
theorem ltN_5 : 5 < NN := by decide
theorem kd_6 : kd 6 = (0, 41) := by decide +kernel
theorem ltN_6 : 6 < NN := by decide
theorem kd_7 : kd 7 = (0, 41) := by decide +kernel
theorem ltN_7 : 7 < NN := by decide
theorem kd_8 : kd 8 = (0, 41) := by decide +kernel
theorem ltN_8 : 8 < NN := by decide
theorem kd_9 : kd 9 = (5, 0) := by decide +kernel
theorem ltN_9 : 9 < NN := by decide
theorem kd_10 : kd 10 = (0, 41) := by decide +kernel
theorem ltN_10 : 10 < NN := by decide
theorem kd_11 : kd 11 = (0, 41) := by decide +kernel
theorem ltN_11 : 11 < NN := by decide
theorem kd_12 : kd 12 = (0, 41) := by decide +kernel
theorem ltN_12 : 12 < NN := by decide
theorem kd_13 : kd 13 = (0, 41) := by decide +kernel
theorem ltN_13 : 13 < NN := by decide
theorem kd_14 : kd 14 = (0, 41) := by decide +kernel
theorem ltN_14 : 14 < NN := by decide
theorem kd_15 : kd 15 = (0, 41) := by decide +kernel
theorem ltN_15 : 15 < NN := by decide
theorem kd_16 : kd 16 = (0, 41) := by decide +kernel
theorem ltN_16 : 16 < NN := by decide
theorem kd_17 : kd 17 = (5, 0) := by decide +kernel
theorem ltN_17 : 17 < NN := by decide
theorem kd_18 : kd 18 = (0, 41) := by decide +kernel
theorem ltN_18 : 18 < NN := by decide
theorem kd_19 : kd 19 = (0, 41) := by decide +kernel
theorem ltN_19 : 19 < NN := by decide
theorem kd_20 : kd 20 = (0, 41) := by decide +kernel
theorem ltN_20 : 20 < NN := by decide
theorem kd_21 : kd 21 = (0, 41) := by decide +kernel
theorem ltN_21 : 21 < NN := by decide
theorem kd_22 : kd 22 = (0, 41) := by decide +kernel
theorem ltN_22 : 22 < NN := by decide
theorem kd_23 : kd 23 = (0, 41) := by decide +kernel
theorem ltN_23 : 23 < NN := by decide
theorem kd_24 : kd 24 = (0, 41) := by decide +kernel
theorem ltN_24 : 24 < NN := by decide
theorem kd_25 : kd 25 = (7, 0) := by decide +kernel
theorem ltN_25 : 25 < NN := by decide
theorem kd_26 : kd 26 = (3, 5) := by decide +kernel
theorem ltN_26 : 26 < NN := by decide
theorem kd_27 : kd 27 = (0, 10) := by decide +kernel
theorem ltN_27 : 27 < NN := by decide
theorem kd_28 : kd 28 = (0, 10) := by decide +kernel
theorem ltN_28 : 28 < NN := by decide
theorem kd_29 : kd 29 = (0, 10) := by decide +kernel
theorem ltN_29 : 29 < NN := by decide
theorem kd_30 : kd 30 = (0, 10) := by decide +kernel
theorem ltN_30 : 30 < NN := by decide
theorem kd_31 : kd 31 = (0, 10) := by decide +kernel
theorem ltN_31 : 31 < NN := by decide
theorem kd_32 : kd 32 = (3, 5) := by decide +kernel
theorem ltN_32 : 32 < NN := by decide
theorem kd_33 : kd 33 = (0, 10) := by decide +kernel
theorem ltN_33 : 33 < NN := by decide
theorem kd_34 : kd 34 = (0, 10) := by decide +kernel
theorem ltN_34 : 34 < NN := by decide
theorem kd_35 : kd 35 = (0, 10) := by decide +kernel
theorem ltN_35 : 35 < NN := by decide
theorem kd_36 : kd 36 = (0, 10) := by decide +kernel
theorem ltN_36 : 36 < NN := by decide
theorem kd_37 : kd 37 = (0, 10) := by decide +kernel
theorem ltN_37 : 37 < NN := by decide
theorem kd_38 : kd 38 = (0, 5) := by decide +kernel
theorem ltN_38 : 38 < NN := by decide
theorem kd_39 : kd 39 = (7, 0) := by decide +kernel
theorem ltN_39 : 39 < NN := by decide
theorem kd_40 : kd 40 = (3, 5) := by decide +kernel
theorem ltN_40 : 40 < NN := by decide
theorem kd_41 : kd 41 = (0, 10) := by decide +kernel
theorem ltN_41 : 41 < NN := by decide
theorem kd_42 : kd 42 = (0, 10) := by decide +kernel
theorem ltN_42 : 42 < NN := by decide
theorem kd_43 : kd 43 = (0, 10) := by decide +kernel
theorem ltN_43 : 43 < NN := by decide
theorem kd_44 : kd 44 = (0, 10) := by decide +kernel
theorem ltN_44 : 44 < NN := by decide
theorem kd_45 : kd 45 = (0, 10) := by decide +kernel
theorem ltN_45 : 45 < NN := by decide
theorem kd_46 : kd 46 = (3, 5) := by decide +kernel
theorem ltN_46 : 46 < NN := by decide
theorem kd_47 : kd 47 = (0, 10) := by decide +kernel
theorem ltN_47 : 47 < NN := by decide
theorem kd_48 : kd 48 = (0, 10) := by decide +kernel
theorem ltN_48 : 48 < NN := by decide
theorem kd_49 : kd 49 = (0, 10) := by decide +kernel
theorem ltN_49 : 49 < NN := by decide
theorem kd_50 : kd 50 = (0, 10) := by decide +kernel
theorem ltN_50 : 50 < NN := by decide
theorem kd_51 : kd 51 = (0, 10) := by decide +kernel
theorem ltN_51 : 51 < NN := by decide
theorem kd_52 : kd 52 = (0, 5) := by decide +kernel
theorem ltN_52 : 52 < NN := by decide
theorem kd_53 : kd 53 = (6, 0) := by decide +kernel
theorem ltN_53 : 53 < NN := by decide
theorem kd_54 : kd 54 = (0, 9) := by decide +kernel
theorem ltN_54 : 54 < NN := by decide
theorem kd_55 : kd 55 = (3, 9) := by decide +kernel
theorem ltN_55 : 55 < NN := by decide
theorem kd_56 : kd 56 = (0, 5) := by decide +kernel
theorem ltN_56 : 56 < NN := by decide
theorem kd_57 : kd 57 = (0, 5) := by decide +kernel
theorem ltN_57 : 57 < NN := by decide
theorem kd_58 : kd 58 = (0, 5) := by decide +kernel
theorem ltN_58 : 58 < NN := by decide
theorem kd_59 : kd 59 = (0, 5) := by decide +kernel
theorem ltN_59 : 59 < NN := by decide
theorem kd_60 : kd 60 = (0, 5) := by decide +kernel
theorem ltN_60 : 60 < NN := by decide
theorem kd_61 : kd 61 = (0, 5) := by decide +kernel
theorem ltN_61 : 61 < NN := by decide
theorem kd_62 : kd 62 = (0, 5) := by decide +kernel
theorem ltN_62 : 62 < NN := by decide
theorem kd_63 : kd 63 = (0, 5) := by decide +kernel
theorem ltN_63 : 63 < NN := by decide
theorem kd_64 : kd 64 = (0, 5) := by decide +kernel
theorem ltN_64 : 64 < NN := by decide
theorem kd_65 : kd 65 = (0, 9) := by decide +kernel
theorem ltN_65 : 65 < NN := by decide
theorem kd_66 : kd 66 = (6, 0) := by decide +kernel
theorem ltN_66 : 66 < NN := by decide
theorem kd_67 : kd 67 = (0, 9) := by decide +kernel
theorem ltN_67 : 67 < NN := by decide
theorem kd_68 : kd 68 = (3, 9) := by decide +kernel
theorem ltN_68 : 68 < NN := by decide
theorem kd_69 : kd 69 = (0, 5) := by decide +kernel
theorem ltN_69 : 69 < NN := by decide
theorem kd_70 : kd 70 = (0, 5) := by decide +kernel
theorem ltN_70 : 70 < NN := by decide
theorem kd_71 : kd 71 = (0, 5) := by decide +kernel
theorem ltN_71 : 71 < NN := by decide
theorem kd_72 : kd 72 = (0, 5) := by decide +kernel
theorem ltN_72 : 72 < NN := by decide
theorem kd_73 : kd 73 = (0, 5) := by decide +kernel
theorem ltN_73 : 73 < NN := by decide
theorem kd_74 : kd 74 = (0, 5) := by decide +kernel
theorem ltN_74 : 74 < NN := by decide
theorem kd_75 : kd 75 = (0, 5) := by decide +kernel
theorem ltN_75 : 75 < NN := by decide
theorem kd_76 : kd 76 = (0, 5) := by decide +kernel
theorem ltN_76 : 76 < NN := by decide
theorem kd_77 : kd 77 = (0, 5) := by decide +kernel
theorem ltN_77 : 77 < NN := by decide
theorem kd_78 : kd 78 = (0, 9) := by decide +kernel
theorem ltN_78 : 78 < NN := by decide
theorem kd_79 : kd 79 = (9, 0) := by decide +kernel
theorem ltN_79 : 79 < NN := by decide
theorem kd_80 : kd 80 = (4, 5) := by decide +kernel
theorem ltN_80 : 80 < NN := by decide
theorem kd_81 : kd 81 = (1, 10) := by decide +kernel
theorem ltN_81 : 81 < NN := by decide
theorem kd_82 : kd 82 = (1, 10) := by decide +kernel
theorem ltN_82 : 82 < NN := by decide
theorem kd_83 : kd 83 = (1, 10) := by decide +kernel
theorem ltN_83 : 83 < NN := by decide
theorem kd_84 : kd 84 = (1, 10) := by decide +kernel
theorem ltN_84 : 84 < NN := by decide
theorem kd_85 : kd 85 = (1, 10) := by decide +kernel
theorem ltN_85 : 85 < NN := by decide
theorem kd_86 : kd 86 = (8, 0) := by decide +kernel
theorem ltN_86 : 86 < NN := by decide
theorem kd_87 : kd 87 = (0, 5) := by decide +kernel
theorem ltN_87 : 87 < NN := by decide
theorem kd_88 : kd 88 = (10, 0) := by decide +kernel
theorem ltN_88 : 88 < NN := by decide
theorem kd_89 : kd 89 = (0, 40) := by decide +kernel
theorem ltN_89 : 89 < NN := by decide
theorem kd_90 : kd 90 = (3, 40) := by decide +kernel
theorem ltN_90 : 90 < NN := by decide
theorem kd_91 : kd 91 = (0, 9) := by decide +kernel
theorem ltN_91 : 91 < NN := by decide
theorem kd_92 : kd 92 = (0, 9) := by decide +kernel
theorem ltN_92 : 92 < NN := by decide
theorem kd_93 : kd 93 = (0, 9) := by decide +kernel
theorem ltN_93 : 93 < NN := by decide
theorem kd_94 : kd 94 = (0, 9) := by decide +kernel
theorem ltN_94 : 94 < NN := by decide
theorem kd_95 : kd 95 = (0, 9) := by decide +kernel
theorem ltN_95 : 95 < NN := by decide
theorem kd_96 : kd 96 = (0, 9) := by decide +kernel
theorem ltN_96 : 96 < NN := by decide
theorem kd_97 : kd 97 = (0, 9) := by decide +kernel
theorem ltN_97 : 97 < NN := by decide
theorem kd_98 : kd 98 = (0, 9) := by decide +kernel
theorem ltN_98 : 98 < NN := by decide
theorem kd_99 : kd 99 = (0, 9) := by decide +kernel
theorem ltN_99 : 99 < NN := by decide
theorem kd_100 : kd 100 = (0, 9) := by decide +kernel
theorem ltN_100 : 100 < NN := by decide
theorem kd_101 : kd 101 = (0, 9) := by decide +kernel
theorem ltN_101 : 101 < NN := by decide
theorem kd_102 : kd 102 = (0, 9) := by decide +kernel
theorem ltN_102 : 102 < NN := by decide
theorem kd_103 : kd 103 = (0, 9) := by decide +kernel
theorem ltN_103 : 103 < NN := by decide
theorem kd_104 : kd 104 = (0, 9) := by decide +kernel
theorem ltN_104 : 104 < NN := by decide
theorem kd_105 : kd 105 = (0, 9) := by decide +kernel
theorem ltN_105 : 105 < NN := by decide
theorem kd_106 : kd 106 = (0, 9) := by decide +kernel
theorem ltN_106 : 106 < NN := by decide
theorem kd_107 : kd 107 = (0, 9) := by decide +kernel
theorem ltN_107 : 107 < NN := by decide
theorem kd_108 : kd 108 = (0, 9) := by decide +kernel
theorem ltN_108 : 108 < NN := by decide
theorem kd_109 : kd 109 = (0, 9) := by decide +kernel
theorem ltN_109 : 109 < NN := by decide
theorem kd_110 : kd 110 = (0, 9) := by decide +kernel
theorem ltN_110 : 110 < NN := by decide
theorem kd_111 : kd 111 = (0, 9) := by decide +kernel
theorem ltN_111 : 111 < NN := by decide
theorem kd_112 : kd 112 = (0, 9) := by decide +kernel
theorem ltN_112 : 112 < NN := by decide
theorem kd_113 : kd 113 = (0, 9) := by decide +kernel
theorem ltN_113 : 113 < NN := by decide
theorem kd_114 : kd 114 = (0, 9) := by decide +kernel
theorem ltN_114 : 114 < NN := by decide
theorem kd_115 : kd 115 = (0, 9) := by decide +kernel
theorem ltN_115 : 115 < NN := by decide
theorem kd_116 : kd 116 = (0, 9) := by decide +kernel
theorem ltN_116 : 116 < NN := by decide
theorem kd_117 : kd 117 = (0, 9) := by decide +kernel
theorem ltN_117 : 117 < NN := by decide
theorem kd_118 : kd 118 = (0, 9) := by decide +kernel
theorem ltN_118 : 118 < NN := by decide
theorem kd_119 : kd 119 = (0, 9) := by decide +kernel
theorem ltN_119 : 119 < NN := by decide
theorem kd_120 : kd 120 = (0, 9) := by decide +kernel
theorem ltN_120 : 120 < NN := by decide
theorem kd_121 : kd 121 = (0, 9) := by decide +kernel
theorem ltN_121 : 121 < NN := by decide
theorem kd_122 : kd 122 = (0, 9) := by decide +kernel
theorem ltN_122 : 122 < NN := by decide
theorem kd_123 : kd 123 = (0, 9) := by decide +kernel
theorem ltN_123 : 123 < NN := by decide
theorem kd_124 : kd 124 = (0, 9) := by decide +kernel
theorem ltN_124 : 124 < NN := by decide
theorem kd_125 : kd 125 = (0, 9) := by decide +kernel
theorem ltN_125 : 125 < NN := by decide
theorem kd_126 : kd 126 = (0, 9) := by decide +kernel
theorem ltN_126 : 126 < NN := by decide
theorem kd_127 : kd 127 = (0, 9) := by decide +kernel
theorem ltN_127 : 127 < NN := by decide
theorem kd_128 : kd 128 = (0, 9) := by decide +kernel
theorem ltN_128 : 128 < NN := by decide
theorem kd_129 : kd 129 = (0, 9) := by decide +kernel
theorem ltN_129 : 129 < NN := by decide
theorem kd_130 : kd 130 = (0, 9) := by decide +kernel
theorem ltN_130 : 130 < NN := by decide
theorem kd_131 : kd 131 = (0, 1800) := by decide +kernel
theorem ltN_131 : 131 < NN := by decide
theorem kd_132 : kd 132 = (12, 0) := by decide +kernel
theorem ltN_132 : 132 < NN := by decide
theorem kd_133 : kd 133 = (0, 41) := by decide +kernel
theorem ltN_133 : 133 < NN := by decide
theorem kd_134 : kd 134 = (0, 41) := by decide +kernel
theorem ltN_134 : 134 < NN := by decide
theorem kd_135 : kd 135 = (0, 41) := by decide +kernel
theorem ltN_135 : 135 < NN := by decide
theorem kd_136 : kd 136 = (0, 41) := by decide +kernel
theorem ltN_136 : 136 < NN := by decide
theorem kd_137 : kd 137 = (0, 41) := by decide +kernel
theorem ltN_137 : 137 < NN := by decide
theorem kd_138 : kd 138 = (0, 41) := by decide +kernel
theorem ltN_138 : 138 < NN := by decide
theorem kd_139 : kd 139 = (0, 3) := by decide +kernel
theorem ltN_139 : 139 < NN := by decide
theorem kd_140 : kd 140 = (0, 41) := by decide +kernel
theorem ltN_140 : 140 < NN := by decide
theorem kd_141 : kd 141 = (0, 50) := by decide +kernel
theorem ltN_141 : 141 < NN := by decide
theorem kd_142 : kd 142 = (0, 50) := by decide +kernel
theorem ltN_142 : 142 < NN := by decide
theorem kd_143 : kd 143 = (2, 50) := by decide +kernel
theorem ltN_143 : 143 < NN := by decide
theorem kd_144 : kd 144 = (0, 5) := by decide +kernel
theorem ltN_144 : 144 < NN := by decide
theorem kd_145 : kd 145 = (0, 9) := by decide +kernel
theorem ltN_145 : 145 < NN := by decide
theorem kd_146 : kd 146 = (1, 25) := by decide +kernel
theorem ltN_146 : 146 < NN := by decide
theorem kd_147 : kd 147 = (1, 4) := by decide +kernel
theorem ltN_147 : 147 < NN := by decide
theorem kd_148 : kd 148 = (0, 5) := by decide +kernel
theorem ltN_148 : 148 < NN := by decide
theorem kd_149 : kd 149 = (0, 490) := by decide +kernel
theorem ltN_149 : 149 < NN := by decide
theorem kd_150 : kd 150 = (2, 2) := by decide +kernel
theorem ltN_150 : 150 < NN := by decide
def isBook (b : Nat) : Prop := b = 1 ∨ b = 9 ∨ b = 17
theorem is_1 : isBook 1 := Or.inl rfl
theorem is_9 : isBook 9 := Or.inr (Or.inl rfl)
theorem is_17 : isBook 17 := Or.inr (Or.inr rfl)
theorem bk_k0 {b : Nat} (h : isBook b) : kd b = (5, 0) := by rcases h with rfl | rfl | rfl <;> decide +kernel
theorem bk_l0 {b : Nat} (h : isBook b) : b < NN := by rcases h with rfl | rfl | rfl <;> decide
theorem bk_k1 {b : Nat} (h : isBook b) : kd (b + 1) = (0, 41) := by rcases h with rfl | rfl | rfl <;> decide +kernel
theorem bk_l1 {b : Nat} (h : isBook b) : (b + 1) < NN := by rcases h with rfl | rfl | rfl <;> decide
theorem bk_k2 {b : Nat} (h : isBook b) : kd (b + 2) = (0, 41) := by rcases h with rfl | rfl | rfl <;> decide +kernel
theorem bk_l2 {b : Nat} (h : isBook b) : (b + 2) < NN := by rcases h with rfl | rfl | rfl <;> decide
theorem bk_k3 {b : Nat} (h : isBook b) : kd (b + 3) = (0, 41) := by rcases h with rfl | rfl | rfl <;> decide +kernel
theorem bk_l3 {b : Nat} (h : isBook b) : (b + 3) < NN := by rcases h with rfl | rfl | rfl <;> decide
theorem bk_k4 {b : Nat} (h : isBook b) : kd (b + 4) = (0, 41) := by rcases h with rfl | rfl | rfl <;> decide +kernel
theorem bk_l4 {b : Nat} (h : isBook b) : (b + 4) < NN := by rcases h with rfl | rfl | rfl <;> decide
theorem bk_k5 {b : Nat} (h : isBook b) : kd (b + 5) = (0, 41) := by rcases h with rfl | rfl | rfl <;> decide +kernel
theorem bk_l5 {b : Nat} (h : isBook b) : (b + 5) < NN := by rcases h with rfl | rfl | rfl <;> decide
theorem bk_k6 {b : Nat} (h : isBook b) : kd (b + 6) = (0, 41) := by rcases h with rfl | rfl | rfl <;> decide +kernel
theorem bk_l6 {b : Nat} (h : isBook b) : (b + 6) < NN := by rcases h with rfl | rfl | rfl <;> decide
theorem bk_k7 {b : Nat} (h : isBook b) : kd (b + 7) = (0, 41) := by rcases h with rfl | rfl | rfl <;> decide +kernel
theorem bk_l7 {b : Nat} (h : isBook b) : (b + 7) < NN := by rcases h with rfl | rfl | rfl <;> decide
def isCtrl (b : Nat) : Prop := b = 53 ∨ b = 66
theorem is_53 : isCtrl 53 := Or.inl rfl
theorem is_66 : isCtrl 66 := Or.inr rfl
theorem ct_k0 {b : Nat} (h : isCtrl b) : kd b = (6, 0) := by rcases h with rfl | rfl <;> decide +kernel
theorem ct_l0 {b : Nat} (h : isCtrl b) : b < NN := by rcases h with rfl | rfl <;> decide
theorem ct_k1 {b : Nat} (h : isCtrl b) : kd (b + 1) = (0, 9) := by rcases h with rfl | rfl <;> decide +kernel
theorem ct_l1 {b : Nat} (h : isCtrl b) : (b + 1) < NN := by rcases h with rfl | rfl <;> decide
theorem ct_k2 {b : Nat} (h : isCtrl b) : kd (b + 2) = (3, 9) := by rcases h with rfl | rfl <;> decide +kernel
theorem ct_l2 {b : Nat} (h : isCtrl b) : (b + 2) < NN := by rcases h with rfl | rfl <;> decide
theorem ct_r2 {b : Nat} (h : isCtrl b) {x : Int32} (hx : inb x 9) : kd (b + 2 + 1 + x.toNatClampNeg) = (0, 5) := by
  have hj := inb_lt hx
  generalize x.toNatClampNeg = j at hj ⊢
  rcases h with rfl | rfl <;> (revert j; decide +kernel)
theorem ct_s2 {b : Nat} (h : isCtrl b) {x : Int32} (hx : inb x 9) : b + 2 + 1 + x.toNatClampNeg < NN := by
  have hj := inb_lt hx
  generalize x.toNatClampNeg = j at hj ⊢
  rcases h with rfl | rfl <;> (revert j; decide +kernel)
theorem ct_k3 {b : Nat} (h : isCtrl b) : kd (b + 3) = (0, 5) := by rcases h with rfl | rfl <;> decide +kernel
theorem ct_l3 {b : Nat} (h : isCtrl b) : (b + 3) < NN := by rcases h with rfl | rfl <;> decide
theorem ct_k4 {b : Nat} (h : isCtrl b) : kd (b + 4) = (0, 5) := by rcases h with rfl | rfl <;> decide +kernel
theorem ct_l4 {b : Nat} (h : isCtrl b) : (b + 4) < NN := by rcases h with rfl | rfl <;> decide
theorem ct_k5 {b : Nat} (h : isCtrl b) : kd (b + 5) = (0, 5) := by rcases h with rfl | rfl <;> decide +kernel
theorem ct_l5 {b : Nat} (h : isCtrl b) : (b + 5) < NN := by rcases h with rfl | rfl <;> decide
theorem ct_k6 {b : Nat} (h : isCtrl b) : kd (b + 6) = (0, 5) := by rcases h with rfl | rfl <;> decide +kernel
theorem ct_l6 {b : Nat} (h : isCtrl b) : (b + 6) < NN := by rcases h with rfl | rfl <;> decide
theorem ct_k7 {b : Nat} (h : isCtrl b) : kd (b + 7) = (0, 5) := by rcases h with rfl | rfl <;> decide +kernel
theorem ct_l7 {b : Nat} (h : isCtrl b) : (b + 7) < NN := by rcases h with rfl | rfl <;> decide
theorem ct_k8 {b : Nat} (h : isCtrl b) : kd (b + 8) = (0, 5) := by rcases h with rfl | rfl <;> decide +kernel
theorem ct_l8 {b : Nat} (h : isCtrl b) : (b + 8) < NN := by rcases h with rfl | rfl <;> decide
theorem ct_k9 {b : Nat} (h : isCtrl b) : kd (b + 9) = (0, 5) := by rcases h with rfl | rfl <;> decide +kernel
theorem ct_l9 {b : Nat} (h : isCtrl b) : (b + 9) < NN := by rcases h with rfl | rfl <;> decide
theorem ct_k10 {b : Nat} (h : isCtrl b) : kd (b + 10) = (0, 5) := by rcases h with rfl | rfl <;> decide +kernel
theorem ct_l10 {b : Nat} (h : isCtrl b) : (b + 10) < NN := by rcases h with rfl | rfl <;> decide
theorem ct_k11 {b : Nat} (h : isCtrl b) : kd (b + 11) = (0, 5) := by rcases h with rfl | rfl <;> decide +kernel
theorem ct_l11 {b : Nat} (h : isCtrl b) : (b + 11) < NN := by rcases h with rfl | rfl <;> decide
theorem ct_k12 {b : Nat} (h : isCtrl b) : kd (b + 12) = (0, 9) := by rcases h with rfl | rfl <;> decide +kernel
theorem ct_l12 {b : Nat} (h : isCtrl b) : (b + 12) < NN := by rcases h with rfl | rfl <;> decide
def isHold (b : Nat) : Prop := b = 25 ∨ b = 39
theorem is_25 : isHold 25 := Or.inl rfl
theorem is_39 : isHold 39 := Or.inr rfl
theorem hd_k0 {b : Nat} (h : isHold b) : kd b = (7, 0) := by rcases h with rfl | rfl <;> decide +kernel
theorem hd_l0 {b : Nat} (h : isHold b) : b < NN := by rcases h with rfl | rfl <;> decide
theorem hd_k1 {b : Nat} (h : isHold b) : kd (b + 1) = (3, 5) := by rcases h with rfl | rfl <;> decide +kernel
theorem hd_l1 {b : Nat} (h : isHold b) : (b + 1) < NN := by rcases h with rfl | rfl <;> decide
theorem hd_r1 {b : Nat} (h : isHold b) {x : Int32} (hx : inb x 5) : kd (b + 1 + 1 + x.toNatClampNeg) = (0, 10) := by
  have hj := inb_lt hx
  generalize x.toNatClampNeg = j at hj ⊢
  rcases h with rfl | rfl <;> (revert j; decide +kernel)
theorem hd_s1 {b : Nat} (h : isHold b) {x : Int32} (hx : inb x 5) : b + 1 + 1 + x.toNatClampNeg < NN := by
  have hj := inb_lt hx
  generalize x.toNatClampNeg = j at hj ⊢
  rcases h with rfl | rfl <;> (revert j; decide +kernel)
theorem hd_k2 {b : Nat} (h : isHold b) : kd (b + 2) = (0, 10) := by rcases h with rfl | rfl <;> decide +kernel
theorem hd_l2 {b : Nat} (h : isHold b) : (b + 2) < NN := by rcases h with rfl | rfl <;> decide
theorem hd_k3 {b : Nat} (h : isHold b) : kd (b + 3) = (0, 10) := by rcases h with rfl | rfl <;> decide +kernel
theorem hd_l3 {b : Nat} (h : isHold b) : (b + 3) < NN := by rcases h with rfl | rfl <;> decide
theorem hd_k4 {b : Nat} (h : isHold b) : kd (b + 4) = (0, 10) := by rcases h with rfl | rfl <;> decide +kernel
theorem hd_l4 {b : Nat} (h : isHold b) : (b + 4) < NN := by rcases h with rfl | rfl <;> decide
theorem hd_k5 {b : Nat} (h : isHold b) : kd (b + 5) = (0, 10) := by rcases h with rfl | rfl <;> decide +kernel
theorem hd_l5 {b : Nat} (h : isHold b) : (b + 5) < NN := by rcases h with rfl | rfl <;> decide
theorem hd_k6 {b : Nat} (h : isHold b) : kd (b + 6) = (0, 10) := by rcases h with rfl | rfl <;> decide +kernel
theorem hd_l6 {b : Nat} (h : isHold b) : (b + 6) < NN := by rcases h with rfl | rfl <;> decide
theorem hd_k7 {b : Nat} (h : isHold b) : kd (b + 7) = (3, 5) := by rcases h with rfl | rfl <;> decide +kernel
theorem hd_l7 {b : Nat} (h : isHold b) : (b + 7) < NN := by rcases h with rfl | rfl <;> decide
theorem hd_r7 {b : Nat} (h : isHold b) {x : Int32} (hx : inb x 5) : kd (b + 7 + 1 + x.toNatClampNeg) = (0, 10) := by
  have hj := inb_lt hx
  generalize x.toNatClampNeg = j at hj ⊢
  rcases h with rfl | rfl <;> (revert j; decide +kernel)
theorem hd_s7 {b : Nat} (h : isHold b) {x : Int32} (hx : inb x 5) : b + 7 + 1 + x.toNatClampNeg < NN := by
  have hj := inb_lt hx
  generalize x.toNatClampNeg = j at hj ⊢
  rcases h with rfl | rfl <;> (revert j; decide +kernel)
theorem hd_k8 {b : Nat} (h : isHold b) : kd (b + 8) = (0, 10) := by rcases h with rfl | rfl <;> decide +kernel
theorem hd_l8 {b : Nat} (h : isHold b) : (b + 8) < NN := by rcases h with rfl | rfl <;> decide
theorem hd_k9 {b : Nat} (h : isHold b) : kd (b + 9) = (0, 10) := by rcases h with rfl | rfl <;> decide +kernel
theorem hd_l9 {b : Nat} (h : isHold b) : (b + 9) < NN := by rcases h with rfl | rfl <;> decide
theorem hd_k10 {b : Nat} (h : isHold b) : kd (b + 10) = (0, 10) := by rcases h with rfl | rfl <;> decide +kernel
theorem hd_l10 {b : Nat} (h : isHold b) : (b + 10) < NN := by rcases h with rfl | rfl <;> decide
theorem hd_k11 {b : Nat} (h : isHold b) : kd (b + 11) = (0, 10) := by rcases h with rfl | rfl <;> decide +kernel
theorem hd_l11 {b : Nat} (h : isHold b) : (b + 11) < NN := by rcases h with rfl | rfl <;> decide
theorem hd_k12 {b : Nat} (h : isHold b) : kd (b + 12) = (0, 10) := by rcases h with rfl | rfl <;> decide +kernel
theorem hd_l12 {b : Nat} (h : isHold b) : (b + 12) < NN := by rcases h with rfl | rfl <;> decide
theorem hd_k13 {b : Nat} (h : isHold b) : kd (b + 13) = (0, 5) := by rcases h with rfl | rfl <;> decide +kernel
theorem hd_l13 {b : Nat} (h : isHold b) : (b + 13) < NN := by rcases h with rfl | rfl <;> decide
theorem st_r {x : Int32} (hx : inb x 5) : kd (80 + 1 + x.toNatClampNeg) = (1, 10) := by
  have hj := inb_lt hx
  generalize x.toNatClampNeg = j at hj ⊢
  revert j; decide +kernel
theorem st_s {x : Int32} (hx : inb x 5) : 80 + 1 + x.toNatClampNeg < NN := by
  have hj := inb_lt hx
  generalize x.toNatClampNeg = j at hj ⊢
  revert j; decide +kernel
theorem tl_r {x : Int32} (hx : inb x 40) : kd (90 + 1 + x.toNatClampNeg) = (0, 9) := by
  have hj := inb_lt hx
  generalize x.toNatClampNeg = j at hj ⊢
  revert j; decide +kernel
theorem tl_s {x : Int32} (hx : inb x 40) : 90 + 1 + x.toNatClampNeg < NN := by
  have hj := inb_lt hx
  generalize x.toNatClampNeg = j at hj ⊢
  revert j; decide +kernel
theorem v_X0 : ∀ k, k < 12 → u_lay RX0 TX0 k ∈ wsAll := fun k h => match k, h with
  | 0, _ => mem_tb 60 (by decide +kernel) (by decide +kernel)
  | 1, _ => mem_tb 62 (by decide +kernel) (by decide +kernel)
  | 2, _ => mem_tb 64 (by decide +kernel) (by decide +kernel)
  | 3, _ => mem_tb 66 (by decide +kernel) (by decide +kernel)
  | 4, _ => mem_tb 68 (by decide +kernel) (by decide +kernel)
  | 5, _ => mem_tb 70 (by decide +kernel) (by decide +kernel)
  | 6, _ => mem_tb 72 (by decide +kernel) (by decide +kernel)
  | 7, _ => mem_tb 74 (by decide +kernel) (by decide +kernel)
  | 8, _ => mem_tb 76 (by decide +kernel) (by decide +kernel)
  | 9, _ => mem_tb 78 (by decide +kernel) (by decide +kernel)
  | 10, _ => mem_tb 80 (by decide +kernel) (by decide +kernel)
  | 11, _ => mem_tb 82 (by decide +kernel) (by decide +kernel)
theorem u_X0 : ∀ w ∈ u_ws RX0 TX0 12, w ∈ wsAll := fun w h => by
  obtain ⟨k, hk, rfl⟩ := List.mem_map.mp h
  exact v_X0 k (List.mem_range.mp hk)
theorem v_X1 : ∀ k, k < 3 → u_lay RX1 TX1 k ∈ wsAll := fun k h => match k, h with
  | 0, _ => mem_tb 122 (by decide +kernel) (by decide +kernel)
  | 1, _ => mem_tb 124 (by decide +kernel) (by decide +kernel)
  | 2, _ => mem_tb 126 (by decide +kernel) (by decide +kernel)
theorem u_X1 : ∀ w ∈ u_ws RX1 TX1 3, w ∈ wsAll := fun w h => by
  obtain ⟨k, hk, rfl⟩ := List.mem_map.mp h
  exact v_X1 k (List.mem_range.mp hk)
theorem v_X2 : ∀ k, k < 3 → u_lay RX2 TX2 k ∈ wsAll := fun k h => match k, h with
  | 0, _ => mem_tb 102 (by decide +kernel) (by decide +kernel)
  | 1, _ => mem_tb 104 (by decide +kernel) (by decide +kernel)
  | 2, _ => mem_tb 106 (by decide +kernel) (by decide +kernel)
theorem u_X2 : ∀ w ∈ u_ws RX2 TX2 3, w ∈ wsAll := fun w h => by
  obtain ⟨k, hk, rfl⟩ := List.mem_map.mp h
  exact v_X2 k (List.mem_range.mp hk)
theorem v_X3 : ∀ k, k < 1 → u_lay RX3 TX3 k ∈ wsAll := fun k h => match k, h with
  | 0, _ => mem_tb 153 (by decide +kernel) (by decide +kernel)
theorem u_X3 : ∀ w ∈ u_ws RX3 TX3 1, w ∈ wsAll := fun w h => by
  obtain ⟨k, hk, rfl⟩ := List.mem_map.mp h
  exact v_X3 k (List.mem_range.mp hk)
theorem v_X4 : ∀ k, k < 2 → u_lay RX4 TX4 k ∈ wsAll := fun k h => match k, h with
  | 0, _ => mem_tb 140 (by decide +kernel) (by decide +kernel)
  | 1, _ => mem_tb 142 (by decide +kernel) (by decide +kernel)
theorem u_X4 : ∀ w ∈ u_ws RX4 TX4 2, w ∈ wsAll := fun w h => by
  obtain ⟨k, hk, rfl⟩ := List.mem_map.mp h
  exact v_X4 k (List.mem_range.mp hk)
theorem v_X5 : ∀ k, k < 5 → u_lay RX5 TX5 k ∈ wsAll := fun k h => match k, h with
  | 0, _ => mem_tb 169 (by decide +kernel) (by decide +kernel)
  | 1, _ => mem_tb 171 (by decide +kernel) (by decide +kernel)
  | 2, _ => mem_tb 173 (by decide +kernel) (by decide +kernel)
  | 3, _ => mem_tb 175 (by decide +kernel) (by decide +kernel)
  | 4, _ => mem_tb 177 (by decide +kernel) (by decide +kernel)
theorem u_X5 : ∀ w ∈ u_ws RX5 TX5 5, w ∈ wsAll := fun w h => by
  obtain ⟨k, hk, rfl⟩ := List.mem_map.mp h
  exact v_X5 k (List.mem_range.mp hk)
theorem v_X6 : ∀ k, k < 13 → u_lay RX6 TX6 k ∈ wsAll := fun k h => match k, h with
  | 0, _ => mem_tb 193 (by decide +kernel) (by decide +kernel)
  | 1, _ => mem_tb 195 (by decide +kernel) (by decide +kernel)
  | 2, _ => mem_tb 197 (by decide +kernel) (by decide +kernel)
  | 3, _ => mem_tb 199 (by decide +kernel) (by decide +kernel)
  | 4, _ => mem_tb 201 (by decide +kernel) (by decide +kernel)
  | 5, _ => mem_tb 203 (by decide +kernel) (by decide +kernel)
  | 6, _ => mem_tb 205 (by decide +kernel) (by decide +kernel)
  | 7, _ => mem_tb 207 (by decide +kernel) (by decide +kernel)
  | 8, _ => mem_tb 209 (by decide +kernel) (by decide +kernel)
  | 9, _ => mem_tb 211 (by decide +kernel) (by decide +kernel)
  | 10, _ => mem_tb 213 (by decide +kernel) (by decide +kernel)
  | 11, _ => mem_tb 215 (by decide +kernel) (by decide +kernel)
  | 12, _ => mem_tb 217 (by decide +kernel) (by decide +kernel)
theorem u_X6 : ∀ w ∈ u_ws RX6 TX6 13, w ∈ wsAll := fun w h => by
  obtain ⟨k, hk, rfl⟩ := List.mem_map.mp h
  exact v_X6 k (List.mem_range.mp hk)
theorem v_X7 : ∀ k, k < 25 → u_lay RX7 TX7 k ∈ wsAll := fun k h => match k, h with
  | 0, _ => mem_tb 642 (by decide +kernel) (by decide +kernel)
  | 1, _ => mem_tb 644 (by decide +kernel) (by decide +kernel)
  | 2, _ => mem_tb 646 (by decide +kernel) (by decide +kernel)
  | 3, _ => mem_tb 648 (by decide +kernel) (by decide +kernel)
  | 4, _ => mem_tb 650 (by decide +kernel) (by decide +kernel)
  | 5, _ => mem_tb 652 (by decide +kernel) (by decide +kernel)
  | 6, _ => mem_tb 654 (by decide +kernel) (by decide +kernel)
  | 7, _ => mem_tb 656 (by decide +kernel) (by decide +kernel)
  | 8, _ => mem_tb 658 (by decide +kernel) (by decide +kernel)
  | 9, _ => mem_tb 660 (by decide +kernel) (by decide +kernel)
  | 10, _ => mem_tb 662 (by decide +kernel) (by decide +kernel)
  | 11, _ => mem_tb 664 (by decide +kernel) (by decide +kernel)
  | 12, _ => mem_tb 666 (by decide +kernel) (by decide +kernel)
  | 13, _ => mem_tb 668 (by decide +kernel) (by decide +kernel)
  | 14, _ => mem_tb 670 (by decide +kernel) (by decide +kernel)
  | 15, _ => mem_tb 672 (by decide +kernel) (by decide +kernel)
  | 16, _ => mem_tb 674 (by decide +kernel) (by decide +kernel)
  | 17, _ => mem_tb 676 (by decide +kernel) (by decide +kernel)
  | 18, _ => mem_tb 678 (by decide +kernel) (by decide +kernel)
  | 19, _ => mem_tb 680 (by decide +kernel) (by decide +kernel)
  | 20, _ => mem_tb 682 (by decide +kernel) (by decide +kernel)
  | 21, _ => mem_tb 684 (by decide +kernel) (by decide +kernel)
  | 22, _ => mem_tb 686 (by decide +kernel) (by decide +kernel)
  | 23, _ => mem_tb 688 (by decide +kernel) (by decide +kernel)
  | 24, _ => mem_tb 690 (by decide +kernel) (by decide +kernel)
  | k + 25, h => absurd h (by omega)
theorem u_X7 : ∀ w ∈ u_ws RX7 TX7 25, w ∈ wsAll := fun w h => by
  obtain ⟨k, hk, rfl⟩ := List.mem_map.mp h
  exact v_X7 k (List.mem_range.mp hk)
theorem fw_X0_11 : Cond.fieldLink RX0 11 (TX0 0).1 (TX0 0).2.1 (TX0 0).2.2.1 ∈ wsAll := mem_tb 26 (by decide +kernel) (by decide +kernel)
theorem fw_X0_15 : Cond.fieldLink RX0 15 (TX0 1).1 (TX0 1).2.1 (TX0 1).2.2.1 ∈ wsAll := mem_tb 29 (by decide +kernel) (by decide +kernel)
theorem fw_X0_18 : Cond.fieldLink RX0 18 (TX0 2).1 (TX0 2).2.1 (TX0 2).2.2.1 ∈ wsAll := mem_tb 32 (by decide +kernel) (by decide +kernel)
theorem fw_X0_21 : Cond.fieldLink RX0 21 (TX0 3).1 (TX0 3).2.1 (TX0 3).2.2.1 ∈ wsAll := mem_tb 35 (by decide +kernel) (by decide +kernel)
theorem fw_X0_24 : Cond.fieldLink RX0 24 (TX0 4).1 (TX0 4).2.1 (TX0 4).2.2.1 ∈ wsAll := mem_tb 38 (by decide +kernel) (by decide +kernel)
theorem fw_X0_27 : Cond.fieldLink RX0 27 (TX0 5).1 (TX0 5).2.1 (TX0 5).2.2.1 ∈ wsAll := mem_tb 41 (by decide +kernel) (by decide +kernel)
theorem fw_X0_30 : Cond.fieldLink RX0 30 (TX0 6).1 (TX0 6).2.1 (TX0 6).2.2.1 ∈ wsAll := mem_tb 44 (by decide +kernel) (by decide +kernel)
theorem fw_X0_33 : Cond.fieldLink RX0 33 (TX0 9).1 (TX0 9).2.1 (TX0 9).2.2.1 ∈ wsAll := mem_tb 52 (by decide +kernel) (by decide +kernel)
theorem fw_X0_37 : Cond.fieldLink RX0 37 (TX0 10).1 (TX0 10).2.1 (TX0 10).2.2.1 ∈ wsAll := mem_tb 55 (by decide +kernel) (by decide +kernel)
theorem fw_X0_40 : Cond.fieldLink RX0 40 (TX0 11).1 (TX0 11).2.1 (TX0 11).2.2.1 ∈ wsAll := mem_tb 58 (by decide +kernel) (by decide +kernel)
theorem fw_X0_43 : Cond.fieldLink RX0 43 (TX0 7).1 (TX0 7).2.1 (TX0 7).2.2.1 ∈ wsAll := mem_tb 47 (by decide +kernel) (by decide +kernel)
theorem fw_X0_59 : Cond.fieldLink RX0 59 (TX0 8).1 (TX0 8).2.1 (TX0 8).2.2.1 ∈ wsAll := mem_tb 50 (by decide +kernel) (by decide +kernel)
theorem fw_X1_9 : Cond.fieldLink RX1 9 (TX1 0).1 (TX1 0).2.1 (TX1 0).2.2.1 ∈ wsAll := mem_tb 116 (by decide +kernel) (by decide +kernel)
theorem fw_X1_17 : Cond.fieldLink RX1 17 (TX1 1).1 (TX1 1).2.1 (TX1 1).2.2.1 ∈ wsAll := mem_tb 119 (by decide +kernel) (by decide +kernel)
theorem fw_X1_20 : Cond.fieldLink RX1 20 (TX1 2).1 (TX1 2).2.1 (TX1 2).2.2.1 ∈ wsAll := mem_tb 121 (by decide +kernel) (by decide +kernel)
theorem fw_X2_11 : Cond.fieldLink RX2 11 (TX2 0).1 (TX2 0).2.1 (TX2 0).2.2.1 ∈ wsAll := mem_tb 94 (by decide +kernel) (by decide +kernel)
theorem fw_X2_16 : Cond.fieldLink RX2 16 (TX2 1).1 (TX2 1).2.1 (TX2 1).2.2.1 ∈ wsAll := mem_tb 98 (by decide +kernel) (by decide +kernel)
theorem fw_X2_19 : Cond.fieldLink RX2 19 (TX2 2).1 (TX2 2).2.1 (TX2 2).2.2.1 ∈ wsAll := mem_tb 100 (by decide +kernel) (by decide +kernel)
theorem fw_X2_29 : Cond.fieldLink RX2 29 (TX0 2).1 (TX0 2).2.1 (TX0 2).2.2.1 ∈ wsAll := mem_tb 33 (by decide +kernel) (by decide +kernel)
theorem fw_X2_34 : Cond.fieldLink RX2 34 (TX0 4).1 (TX0 4).2.1 (TX0 4).2.2.1 ∈ wsAll := mem_tb 39 (by decide +kernel) (by decide +kernel)
theorem fw_X2_37 : Cond.fieldLink RX2 37 (TX0 1).1 (TX0 1).2.1 (TX0 1).2.2.1 ∈ wsAll := mem_tb 30 (by decide +kernel) (by decide +kernel)
theorem fw_X2_40 : Cond.fieldLink RX2 40 (TX0 3).1 (TX0 3).2.1 (TX0 3).2.2.1 ∈ wsAll := mem_tb 36 (by decide +kernel) (by decide +kernel)
theorem fw_X2_43 : Cond.fieldLink RX2 43 (TX0 5).1 (TX0 5).2.1 (TX0 5).2.2.1 ∈ wsAll := mem_tb 42 (by decide +kernel) (by decide +kernel)
theorem fw_X2_57 : Cond.fieldLink RX2 57 (TX0 9).1 (TX0 9).2.1 (TX0 9).2.2.1 ∈ wsAll := mem_tb 54 (by decide +kernel) (by decide +kernel)
theorem fw_X2_61 : Cond.fieldLink RX2 61 (TX0 10).1 (TX0 10).2.1 (TX0 10).2.2.1 ∈ wsAll := mem_tb 57 (by decide +kernel) (by decide +kernel)
theorem fw_X3_9 : Cond.fieldLink RX3 9 (TX3 0).1 (TX3 0).2.1 (TX3 0).2.2.1 ∈ wsAll := mem_tb 152 (by decide +kernel) (by decide +kernel)
theorem fw_X3_23 : Cond.fieldLink RX3 23 (TX2 0).1 (TX2 0).2.1 (TX2 0).2.2.1 ∈ wsAll := mem_tb 95 (by decide +kernel) (by decide +kernel)
theorem fw_X4_13 : Cond.fieldLink RX4 13 (TX4 1).1 (TX4 1).2.1 (TX4 1).2.2.1 ∈ wsAll := mem_tb 139 (by decide +kernel) (by decide +kernel)
theorem fw_X4_20 : Cond.fieldLink RX4 20 (TX4 0).1 (TX4 0).2.1 (TX4 0).2.2.1 ∈ wsAll := mem_tb 137 (by decide +kernel) (by decide +kernel)
theorem fw_X4_41 : Cond.fieldLink RX4 41 (TX2 0).1 (TX2 0).2.1 (TX2 0).2.2.1 ∈ wsAll := mem_tb 96 (by decide +kernel) (by decide +kernel)
theorem fw_X5_9 : Cond.fieldLink RX5 9 (TX5 0).1 (TX5 0).2.1 (TX5 0).2.2.1 ∈ wsAll := mem_tb 163 (by decide +kernel) (by decide +kernel)
theorem fw_X5_17 : Cond.fieldLink RX5 17 (TX5 1).1 (TX5 1).2.1 (TX5 1).2.2.1 ∈ wsAll := mem_tb 164 (by decide +kernel) (by decide +kernel)
theorem fw_X5_20 : Cond.fieldLink RX5 20 (TX5 3).1 (TX5 3).2.1 (TX5 3).2.2.1 ∈ wsAll := mem_tb 166 (by decide +kernel) (by decide +kernel)
theorem fw_X5_23 : Cond.fieldLink RX5 23 (TX5 2).1 (TX5 2).2.1 (TX5 2).2.2.1 ∈ wsAll := mem_tb 165 (by decide +kernel) (by decide +kernel)
theorem fw_X5_32 : Cond.fieldLink RX5 32 (TX0 7).1 (TX0 7).2.1 (TX0 7).2.2.1 ∈ wsAll := mem_tb 48 (by decide +kernel) (by decide +kernel)
theorem fw_X5_35 : Cond.fieldLink RX5 35 (TX0 6).1 (TX0 6).2.1 (TX0 6).2.2.1 ∈ wsAll := mem_tb 45 (by decide +kernel) (by decide +kernel)
theorem fw_X5_52 : Cond.fieldLink RX5 52 (TX1 0).1 (TX1 0).2.1 (TX1 0).2.2.1 ∈ wsAll := mem_tb 117 (by decide +kernel) (by decide +kernel)
theorem fw_X5_54 : Cond.fieldLink RX5 54 (TX0 0).1 (TX0 0).2.1 (TX0 0).2.2.1 ∈ wsAll := mem_tb 27 (by decide +kernel) (by decide +kernel)
theorem fw_X5_60 : Cond.fieldLink RX5 60 (TX5 4).1 (TX5 4).2.1 (TX5 4).2.2.1 ∈ wsAll := mem_tb 167 (by decide +kernel) (by decide +kernel)
theorem fw_X6_12 : Cond.fieldLink RX6 12 (TX6 0).1 (TX6 0).2.1 (TX6 0).2.2.1 ∈ wsAll := mem_tb 180 (by decide +kernel) (by decide +kernel)
theorem fw_X6_16 : Cond.fieldLink RX6 16 (TX6 1).1 (TX6 1).2.1 (TX6 1).2.2.1 ∈ wsAll := mem_tb 181 (by decide +kernel) (by decide +kernel)
theorem fw_X6_19 : Cond.fieldLink RX6 19 (TX6 2).1 (TX6 2).2.1 (TX6 2).2.2.1 ∈ wsAll := mem_tb 182 (by decide +kernel) (by decide +kernel)
theorem fw_X6_25 : Cond.fieldLink RX6 25 (TX6 4).1 (TX6 4).2.1 (TX6 4).2.2.1 ∈ wsAll := mem_tb 184 (by decide +kernel) (by decide +kernel)
theorem fw_X6_32 : Cond.fieldLink RX6 32 (TX6 5).1 (TX6 5).2.1 (TX6 5).2.2.1 ∈ wsAll := mem_tb 185 (by decide +kernel) (by decide +kernel)
theorem fw_X6_39 : Cond.fieldLink RX6 39 (TX6 6).1 (TX6 6).2.1 (TX6 6).2.2.1 ∈ wsAll := mem_tb 186 (by decide +kernel) (by decide +kernel)
theorem fw_X6_46 : Cond.fieldLink RX6 46 (TX6 7).1 (TX6 7).2.1 (TX6 7).2.2.1 ∈ wsAll := mem_tb 187 (by decide +kernel) (by decide +kernel)
theorem fw_X6_53 : Cond.fieldLink RX6 53 (TX6 9).1 (TX6 9).2.1 (TX6 9).2.2.1 ∈ wsAll := mem_tb 189 (by decide +kernel) (by decide +kernel)
theorem fw_X6_57 : Cond.fieldLink RX6 57 (TX6 11).1 (TX6 11).2.1 (TX6 11).2.2.1 ∈ wsAll := mem_tb 191 (by decide +kernel) (by decide +kernel)
theorem fw_X6_60 : Cond.fieldLink RX6 60 (TX6 12).1 (TX6 12).2.1 (TX6 12).2.2.1 ∈ wsAll := mem_tb 192 (by decide +kernel) (by decide +kernel)
theorem fw_X6_96 : Cond.fieldLink RX6 96 (TX0 7).1 (TX0 7).2.1 (TX0 7).2.2.1 ∈ wsAll := mem_tb 49 (by decide +kernel) (by decide +kernel)
theorem fw_X6_100 : Cond.fieldLink RX6 100 (TX0 0).1 (TX0 0).2.1 (TX0 0).2.2.1 ∈ wsAll := mem_tb 28 (by decide +kernel) (by decide +kernel)
theorem fw_X6_104 : Cond.fieldLink RX6 104 (TX0 2).1 (TX0 2).2.1 (TX0 2).2.2.1 ∈ wsAll := mem_tb 34 (by decide +kernel) (by decide +kernel)
theorem fw_X6_107 : Cond.fieldLink RX6 107 (TX0 1).1 (TX0 1).2.1 (TX0 1).2.2.1 ∈ wsAll := mem_tb 31 (by decide +kernel) (by decide +kernel)
theorem fw_X6_110 : Cond.fieldLink RX6 110 (TX0 3).1 (TX0 3).2.1 (TX0 3).2.2.1 ∈ wsAll := mem_tb 37 (by decide +kernel) (by decide +kernel)
theorem fw_X6_113 : Cond.fieldLink RX6 113 (TX0 4).1 (TX0 4).2.1 (TX0 4).2.2.1 ∈ wsAll := mem_tb 40 (by decide +kernel) (by decide +kernel)
theorem fw_X6_116 : Cond.fieldLink RX6 116 (TX0 5).1 (TX0 5).2.1 (TX0 5).2.2.1 ∈ wsAll := mem_tb 43 (by decide +kernel) (by decide +kernel)
theorem fw_X6_123 : Cond.fieldLink RX6 123 (TX0 8).1 (TX0 8).2.1 (TX0 8).2.2.1 ∈ wsAll := mem_tb 51 (by decide +kernel) (by decide +kernel)
theorem fw_X6_130 : Cond.fieldLink RX6 130 (TX6 8).1 (TX6 8).2.1 (TX6 8).2.2.1 ∈ wsAll := mem_tb 188 (by decide +kernel) (by decide +kernel)
theorem fw_X6_134 : Cond.fieldLink RX6 134 (TX0 9).1 (TX0 9).2.1 (TX0 9).2.2.1 ∈ wsAll := mem_tb 53 (by decide +kernel) (by decide +kernel)
theorem fw_X6_137 : Cond.fieldLink RX6 137 (TX0 10).1 (TX0 10).2.1 (TX0 10).2.2.1 ∈ wsAll := mem_tb 56 (by decide +kernel) (by decide +kernel)
theorem fw_X6_140 : Cond.fieldLink RX6 140 (TX0 11).1 (TX0 11).2.1 (TX0 11).2.2.1 ∈ wsAll := mem_tb 59 (by decide +kernel) (by decide +kernel)
theorem fw_X6_149 : Cond.fieldLink RX6 149 (TX2 0).1 (TX2 0).2.1 (TX2 0).2.2.1 ∈ wsAll := mem_tb 97 (by decide +kernel) (by decide +kernel)
theorem fw_X6_153 : Cond.fieldLink RX6 153 (TX2 1).1 (TX2 1).2.1 (TX2 1).2.2.1 ∈ wsAll := mem_tb 99 (by decide +kernel) (by decide +kernel)
theorem fw_X6_156 : Cond.fieldLink RX6 156 (TX2 2).1 (TX2 2).2.1 (TX2 2).2.2.1 ∈ wsAll := mem_tb 101 (by decide +kernel) (by decide +kernel)
theorem fw_X6_163 : Cond.fieldLink RX6 163 (TX1 0).1 (TX1 0).2.1 (TX1 0).2.2.1 ∈ wsAll := mem_tb 118 (by decide +kernel) (by decide +kernel)
theorem fw_X6_170 : Cond.fieldLink RX6 170 (TX1 1).1 (TX1 1).2.1 (TX1 1).2.2.1 ∈ wsAll := mem_tb 120 (by decide +kernel) (by decide +kernel)
theorem fw_X6_245 : Cond.fieldLink RX6 245 (TX6 3).1 (TX6 3).2.1 (TX6 3).2.2.1 ∈ wsAll := mem_tb 183 (by decide +kernel) (by decide +kernel)
theorem fw_X6_258 : Cond.fieldLink RX6 258 (TX5 4).1 (TX5 4).2.1 (TX5 4).2.2.1 ∈ wsAll := mem_tb 168 (by decide +kernel) (by decide +kernel)
theorem fw_X6_261 : Cond.fieldLink RX6 261 (TX4 0).1 (TX4 0).2.1 (TX4 0).2.2.1 ∈ wsAll := mem_tb 138 (by decide +kernel) (by decide +kernel)
theorem fw_X6_271 : Cond.fieldLink RX6 271 (TX0 6).1 (TX0 6).2.1 (TX0 6).2.2.1 ∈ wsAll := mem_tb 46 (by decide +kernel) (by decide +kernel)
theorem fw_X6_278 : Cond.fieldLink RX6 278 (TX6 10).1 (TX6 10).2.1 (TX6 10).2.2.1 ∈ wsAll := mem_tb 190 (by decide +kernel) (by decide +kernel)
theorem fw_X7_7 : Cond.fieldLink RX7 7 (TX7 0).1 (TX7 0).2.1 (TX7 0).2.2.1 ∈ wsAll := mem_tb 617 (by decide +kernel) (by decide +kernel)
theorem fw_X7_13 : Cond.fieldLink RX7 13 (TX7 1).1 (TX7 1).2.1 (TX7 1).2.2.1 ∈ wsAll := mem_tb 618 (by decide +kernel) (by decide +kernel)
theorem fw_X7_16 : Cond.fieldLink RX7 16 (TX7 2).1 (TX7 2).2.1 (TX7 2).2.2.1 ∈ wsAll := mem_tb 619 (by decide +kernel) (by decide +kernel)
theorem fw_X7_19 : Cond.fieldLink RX7 19 (TX7 3).1 (TX7 3).2.1 (TX7 3).2.2.1 ∈ wsAll := mem_tb 620 (by decide +kernel) (by decide +kernel)
theorem fw_X7_22 : Cond.fieldLink RX7 22 (TX7 4).1 (TX7 4).2.1 (TX7 4).2.2.1 ∈ wsAll := mem_tb 621 (by decide +kernel) (by decide +kernel)
theorem fw_X7_25 : Cond.fieldLink RX7 25 (TX7 5).1 (TX7 5).2.1 (TX7 5).2.2.1 ∈ wsAll := mem_tb 622 (by decide +kernel) (by decide +kernel)
theorem fw_X7_28 : Cond.fieldLink RX7 28 (TX7 8).1 (TX7 8).2.1 (TX7 8).2.2.1 ∈ wsAll := mem_tb 625 (by decide +kernel) (by decide +kernel)
theorem fw_X7_31 : Cond.fieldLink RX7 31 (TX7 9).1 (TX7 9).2.1 (TX7 9).2.2.1 ∈ wsAll := mem_tb 626 (by decide +kernel) (by decide +kernel)
theorem fw_X7_34 : Cond.fieldLink RX7 34 (TX7 10).1 (TX7 10).2.1 (TX7 10).2.2.1 ∈ wsAll := mem_tb 627 (by decide +kernel) (by decide +kernel)
theorem fw_X7_37 : Cond.fieldLink RX7 37 (TX7 11).1 (TX7 11).2.1 (TX7 11).2.2.1 ∈ wsAll := mem_tb 628 (by decide +kernel) (by decide +kernel)
theorem fw_X7_40 : Cond.fieldLink RX7 40 (TX7 12).1 (TX7 12).2.1 (TX7 12).2.2.1 ∈ wsAll := mem_tb 629 (by decide +kernel) (by decide +kernel)
theorem fw_X7_44 : Cond.fieldLink RX7 44 (TX7 13).1 (TX7 13).2.1 (TX7 13).2.2.1 ∈ wsAll := mem_tb 630 (by decide +kernel) (by decide +kernel)
theorem fw_X7_47 : Cond.fieldLink RX7 47 (TX7 15).1 (TX7 15).2.1 (TX7 15).2.2.1 ∈ wsAll := mem_tb 632 (by decide +kernel) (by decide +kernel)
theorem fw_X7_50 : Cond.fieldLink RX7 50 (TX7 20).1 (TX7 20).2.1 (TX7 20).2.2.1 ∈ wsAll := mem_tb 637 (by decide +kernel) (by decide +kernel)
theorem fw_X7_54 : Cond.fieldLink RX7 54 (TX7 21).1 (TX7 21).2.1 (TX7 21).2.2.1 ∈ wsAll := mem_tb 638 (by decide +kernel) (by decide +kernel)
theorem fw_X7_57 : Cond.fieldLink RX7 57 (TX7 22).1 (TX7 22).2.1 (TX7 22).2.2.1 ∈ wsAll := mem_tb 639 (by decide +kernel) (by decide +kernel)
theorem fw_X7_60 : Cond.fieldLink RX7 60 (TX7 23).1 (TX7 23).2.1 (TX7 23).2.2.1 ∈ wsAll := mem_tb 640 (by decide +kernel) (by decide +kernel)
theorem fw_X7_63 : Cond.fieldLink RX7 63 (TX7 24).1 (TX7 24).2.1 (TX7 24).2.2.1 ∈ wsAll := mem_tb 641 (by decide +kernel) (by decide +kernel)
theorem fw_X7_70 : Cond.fieldLink RX7 70 (TX7 6).1 (TX7 6).2.1 (TX7 6).2.2.1 ∈ wsAll := mem_tb 623 (by decide +kernel) (by decide +kernel)
theorem fw_X7_114 : Cond.fieldLink RX7 114 (TX7 7).1 (TX7 7).2.1 (TX7 7).2.2.1 ∈ wsAll := mem_tb 624 (by decide +kernel) (by decide +kernel)
theorem fw_X7_127 : Cond.fieldLink RX7 127 (TX7 14).1 (TX7 14).2.1 (TX7 14).2.2.1 ∈ wsAll := mem_tb 631 (by decide +kernel) (by decide +kernel)
theorem fw_X7_151 : Cond.fieldLink RX7 151 (TX7 16).1 (TX7 16).2.1 (TX7 16).2.2.1 ∈ wsAll := mem_tb 633 (by decide +kernel) (by decide +kernel)
theorem fw_X7_154 : Cond.fieldLink RX7 154 (TX7 17).1 (TX7 17).2.1 (TX7 17).2.2.1 ∈ wsAll := mem_tb 634 (by decide +kernel) (by decide +kernel)
theorem fw_X7_157 : Cond.fieldLink RX7 157 (TX7 18).1 (TX7 18).2.1 (TX7 18).2.2.1 ∈ wsAll := mem_tb 635 (by decide +kernel) (by decide +kernel)
theorem fw_X7_160 : Cond.fieldLink RX7 160 (TX7 19).1 (TX7 19).2.1 (TX7 19).2.2.1 ∈ wsAll := mem_tb 636 (by decide +kernel) (by decide +kernel)
theorem ml_L_13 : Cond.methodLink RL 13 yX6_sellShares ∈ wsAll := mem_tb 220 (by decide +kernel) (by decide +kernel)
theorem ml_L_17 : Cond.methodLink RL 17 yX7_sellShares ∈ wsAll := mem_tb 694 (by decide +kernel) (by decide +kernel)
theorem ml_L_18 : Cond.methodLink RL 18 yX6_sellVotes ∈ wsAll := mem_tb 282 (by decide +kernel) (by decide +kernel)
theorem ml_L_21 : Cond.methodLink RL 21 yX7_sellVotes ∈ wsAll := mem_tb 735 (by decide +kernel) (by decide +kernel)
theorem ml_L_22 : Cond.methodLink RL 22 yX6_veto ∈ wsAll := mem_tb 286 (by decide +kernel) (by decide +kernel)
theorem ml_L_26 : Cond.methodLink RL 26 yX7_veto ∈ wsAll := mem_tb 739 (by decide +kernel) (by decide +kernel)
theorem ml_L_27 : Cond.methodLink RL 27 yX6_cancel ∈ wsAll := mem_tb 296 (by decide +kernel) (by decide +kernel)
theorem ml_L_31 : Cond.methodLink RL 31 yX7_cancel ∈ wsAll := mem_tb 746 (by decide +kernel) (by decide +kernel)
theorem ml_L_32 : Cond.methodLink RL 32 yX6_told ∈ wsAll := mem_tb 304 (by decide +kernel) (by decide +kernel)
theorem ml_L_36 : Cond.methodLink RL 36 yX7_told ∈ wsAll := mem_tb 754 (by decide +kernel) (by decide +kernel)
theorem ml_L_37 : Cond.methodLink RL 37 yX6_look ∈ wsAll := mem_tb 315 (by decide +kernel) (by decide +kernel)
theorem ml_L_40 : Cond.methodLink RL 40 yX7_look ∈ wsAll := mem_tb 758 (by decide +kernel) (by decide +kernel)
theorem ml_L_41 : Cond.methodLink RL 41 yX6_rule ∈ wsAll := mem_tb 319 (by decide +kernel) (by decide +kernel)
theorem ml_L_44 : Cond.methodLink RL 44 yX7_rule ∈ wsAll := mem_tb 762 (by decide +kernel) (by decide +kernel)
theorem ml_L_45 : Cond.methodLink RL 45 yX6_holds ∈ wsAll := mem_tb 323 (by decide +kernel) (by decide +kernel)
theorem ml_L_49 : Cond.methodLink RL 49 yX7_holds ∈ wsAll := mem_tb 766 (by decide +kernel) (by decide +kernel)
theorem ml_L_50 : Cond.methodLink RL 50 yX6_controls ∈ wsAll := mem_tb 404 (by decide +kernel) (by decide +kernel)
theorem ml_L_53 : Cond.methodLink RL 53 yX7_controls ∈ wsAll := mem_tb 770 (by decide +kernel) (by decide +kernel)
theorem ml_L_54 : Cond.methodLink RL 54 yX6_how ∈ wsAll := mem_tb 408 (by decide +kernel) (by decide +kernel)
theorem ml_L_57 : Cond.methodLink RL 57 yX7_how ∈ wsAll := mem_tb 792 (by decide +kernel) (by decide +kernel)
theorem ml_L_58 : Cond.methodLink RL 58 yX6_above ∈ wsAll := mem_tb 441 (by decide +kernel) (by decide +kernel)
theorem ml_L_61 : Cond.methodLink RL 61 yX7_above ∈ wsAll := mem_tb 810 (by decide +kernel) (by decide +kernel)
theorem ml_L_62 : Cond.methodLink RL 62 yX6_when ∈ wsAll := mem_tb 449 (by decide +kernel) (by decide +kernel)
theorem ml_L_65 : Cond.methodLink RL 65 yX7_when ∈ wsAll := mem_tb 814 (by decide +kernel) (by decide +kernel)
theorem ml_L_66 : Cond.methodLink RL 66 yX6_fewest ∈ wsAll := mem_tb 490 (by decide +kernel) (by decide +kernel)
theorem ml_L_69 : Cond.methodLink RL 69 yX7_fewest ∈ wsAll := mem_tb 822 (by decide +kernel) (by decide +kernel)
theorem ml_L_70 : Cond.methodLink RL 70 yX6_event ∈ wsAll := mem_tb 513 (by decide +kernel) (by decide +kernel)
theorem ml_L_73 : Cond.methodLink RL 73 yX7_event ∈ wsAll := mem_tb 826 (by decide +kernel) (by decide +kernel)
theorem ml_L_74 : Cond.methodLink RL 74 yX6_stake ∈ wsAll := mem_tb 521 (by decide +kernel) (by decide +kernel)
theorem ml_L_78 : Cond.methodLink RL 78 yX7_stake ∈ wsAll := mem_tb 834 (by decide +kernel) (by decide +kernel)
theorem ml_L_79 : Cond.methodLink RL 79 yX6_nobody ∈ wsAll := mem_tb 544 (by decide +kernel) (by decide +kernel)
theorem ml_L_83 : Cond.methodLink RL 83 yX7_nobody ∈ wsAll := mem_tb 867 (by decide +kernel) (by decide +kernel)
theorem ml_L_84 : Cond.methodLink RL 84 yX6_ranked ∈ wsAll := mem_tb 554 (by decide +kernel) (by decide +kernel)
theorem ml_L_87 : Cond.methodLink RL 87 yX7_ranked ∈ wsAll := mem_tb 871 (by decide +kernel) (by decide +kernel)
theorem ml_L_88 : Cond.methodLink RL 88 yX6_owners ∈ wsAll := mem_tb 563 (by decide +kernel) (by decide +kernel)
theorem ml_L_91 : Cond.methodLink RL 91 yX7_owners ∈ wsAll := mem_tb 879 (by decide +kernel) (by decide +kernel)
theorem ml_L_92 : Cond.methodLink RL 92 yX6_circle ∈ wsAll := mem_tb 571 (by decide +kernel) (by decide +kernel)
theorem ml_L_95 : Cond.methodLink RL 95 yX7_circle ∈ wsAll := mem_tb 883 (by decide +kernel) (by decide +kernel)
theorem ml_L_96 : Cond.methodLink RL 96 yX6_image ∈ wsAll := mem_tb 579 (by decide +kernel) (by decide +kernel)
theorem ml_L_99 : Cond.methodLink RL 99 yX7_image ∈ wsAll := mem_tb 887 (by decide +kernel) (by decide +kernel)
theorem ml_L_100 : Cond.methodLink RL 100 yX6_restore ∈ wsAll := mem_tb 591 (by decide +kernel) (by decide +kernel)
theorem ml_L_103 : Cond.methodLink RL 103 yX7_restore ∈ wsAll := mem_tb 891 (by decide +kernel) (by decide +kernel)
theorem ml_L_104 : Cond.methodLink RL 104 yX6_count ∈ wsAll := mem_tb 595 (by decide +kernel) (by decide +kernel)
theorem ml_L_107 : Cond.methodLink RL 107 yX7_count ∈ wsAll := mem_tb 895 (by decide +kernel) (by decide +kernel)
theorem ml_X0_46 : Cond.methodLink RX0 46 yX0_arrange ∈ wsAll := mem_tb 248 (by decide +kernel) (by decide +kernel)
theorem ml_X0_49 : Cond.methodLink RX0 49 yX0_closeGap ∈ wsAll := mem_tb 271 (by decide +kernel) (by decide +kernel)
theorem ml_X0_53 : Cond.methodLink RX0 53 arraycopyName ∈ wsAll := mem_tb 275 (by decide +kernel) (by decide +kernel)
theorem ml_X0_66 : Cond.methodLink RX0 66 yX0_isLastOfItsDay ∈ wsAll := mem_tb 603 (by decide +kernel) (by decide +kernel)
theorem ml_X1_23 : Cond.methodLink RX1 23 yX1_workOut ∈ wsAll := mem_tb 340 (by decide +kernel) (by decide +kernel)
theorem ml_X1_27 : Cond.methodLink RX1 27 yX1_newFirms ∈ wsAll := mem_tb 344 (by decide +kernel) (by decide +kernel)
theorem ml_X1_35 : Cond.methodLink RX1 35 yX2_falls ∈ wsAll := mem_tb 351 (by decide +kernel) (by decide +kernel)
theorem ml_X1_41 : Cond.methodLink RX1 41 yX1_firmsBefore ∈ wsAll := mem_tb 426 (by decide +kernel) (by decide +kernel)
theorem ml_X1_45 : Cond.methodLink RX1 45 yJ6_bitCount_0f7a4 ∈ wsAll := mem_tb 430 (by decide +kernel) (by decide +kernel)
theorem ml_X1_51 : Cond.methodLink RX1 51 yX1_witnessOf ∈ wsAll := mem_tb 440 (by decide +kernel) (by decide +kernel)
theorem ml_X2_23 : Cond.methodLink RX2 23 arraycopyName ∈ wsAll := mem_tb 502 (by decide +kernel) (by decide +kernel)
theorem ml_X2_46 : Cond.methodLink RX2 46 yX2_move ∈ wsAll := mem_tb 264 (by decide +kernel) (by decide +kernel)
theorem ml_X2_50 : Cond.methodLink RX2 50 yX2_allies ∈ wsAll := mem_tb 355 (by decide +kernel) (by decide +kernel)
theorem ml_X2_54 : Cond.methodLink RX2 54 yX2_block ∈ wsAll := mem_tb 358 (by decide +kernel) (by decide +kernel)
theorem ml_X2_64 : Cond.methodLink RX2 64 yX2_isMatched ∈ wsAll := mem_tb 362 (by decide +kernel) (by decide +kernel)
theorem ml_X3_15 : Cond.methodLink RX3 15 yX3_firmsWithShareOf ∈ wsAll := mem_tb 398 (by decide +kernel) (by decide +kernel)
theorem ml_X4_16 : Cond.methodLink RX4 16 yX4_lockedFirms ∈ wsAll := mem_tb 370 (by decide +kernel) (by decide +kernel)
theorem ml_X4_24 : Cond.methodLink RX4 24 yX4_writeRow ∈ wsAll := mem_tb 380 (by decide +kernel) (by decide +kernel)
theorem ml_X4_28 : Cond.methodLink RX4 28 yX4_solve ∈ wsAll := mem_tb 386 (by decide +kernel) (by decide +kernel)
theorem ml_X4_35 : Cond.methodLink RX4 35 yX2_sharesHeldBy ∈ wsAll := mem_tb 374 (by decide +kernel) (by decide +kernel)
theorem ml_X4_51 : Cond.methodLink RX4 51 yX4_eliminate ∈ wsAll := mem_tb 390 (by decide +kernel) (by decide +kernel)
theorem ml_X4_55 : Cond.methodLink RX4 55 yX4_lower ∈ wsAll := mem_tb 552 (by decide +kernel) (by decide +kernel)
theorem ml_X4_59 : Cond.methodLink RX4 59 yX4_upper ∈ wsAll := mem_tb 553 (by decide +kernel) (by decide +kernel)
theorem ml_X5_27 : Cond.methodLink RX5 27 yX2_beginAgain ∈ wsAll := mem_tb 461 (by decide +kernel) (by decide +kernel)
theorem ml_X5_38 : Cond.methodLink RX5 38 yX2_carryOut ∈ wsAll := mem_tb 462 (by decide +kernel) (by decide +kernel)
theorem ml_X5_42 : Cond.methodLink RX5 42 yX0_isLastOfItsDay ∈ wsAll := mem_tb 463 (by decide +kernel) (by decide +kernel)
theorem ml_X5_46 : Cond.methodLink RX5 46 yX1_workOut ∈ wsAll := mem_tb 467 (by decide +kernel) (by decide +kernel)
theorem ml_X5_57 : Cond.methodLink RX5 57 yX5_listEvents ∈ wsAll := mem_tb 468 (by decide +kernel) (by decide +kernel)
theorem ml_X5_63 : Cond.methodLink RX5 63 yX5_listEvent ∈ wsAll := mem_tb 472 (by decide +kernel) (by decide +kernel)
theorem ml_X5_67 : Cond.methodLink RX5 67 yX5_isControlled ∈ wsAll := mem_tb 476 (by decide +kernel) (by decide +kernel)
theorem ml_X5_79 : Cond.methodLink RX5 79 yX5_lastBy ∈ wsAll := mem_tb 486 (by decide +kernel) (by decide +kernel)
theorem ml_X6_63 : Cond.methodLink RX6 63 yX6_sell ∈ wsAll := mem_tb 224 (by decide +kernel) (by decide +kernel)
theorem ml_X6_67 : Cond.methodLink RX6 67 yX6_isController ∈ wsAll := mem_tb 290 (by decide +kernel) (by decide +kernel)
theorem ml_X6_71 : Cond.methodLink RX6 71 yX6_isFirm ∈ wsAll := mem_tb 231 (by decide +kernel) (by decide +kernel)
theorem ml_X6_74 : Cond.methodLink RX6 74 yX6_isDay ∈ wsAll := mem_tb 234 (by decide +kernel) (by decide +kernel)
theorem ml_X6_77 : Cond.methodLink RX6 77 yX6_isYesOrNo ∈ wsAll := mem_tb 293 (by decide +kernel) (by decide +kernel)
theorem ml_X6_80 : Cond.methodLink RX6 80 yX6_enter ∈ wsAll := mem_tb 240 (by decide +kernel) (by decide +kernel)
theorem ml_X6_83 : Cond.methodLink RX6 83 yX6_isDeal ∈ wsAll := mem_tb 300 (by decide +kernel) (by decide +kernel)
theorem ml_X6_86 : Cond.methodLink RX6 86 yX6_isSoundWithout ∈ wsAll := mem_tb 252 (by decide +kernel) (by decide +kernel)
theorem ml_X6_89 : Cond.methodLink RX6 89 yX0_strike ∈ wsAll := mem_tb 267 (by decide +kernel) (by decide +kernel)
theorem ml_X6_93 : Cond.methodLink RX6 93 yX6_allIsChanged ∈ wsAll := mem_tb 278 (by decide +kernel) (by decide +kernel)
theorem ml_X6_119 : Cond.methodLink RX6 119 yX0_placeOf ∈ wsAll := mem_tb 308 (by decide +kernel) (by decide +kernel)
theorem ml_X6_126 : Cond.methodLink RX6 126 yX6_asNumber ∈ wsAll := mem_tb 312 (by decide +kernel) (by decide +kernel)
theorem ml_X6_143 : Cond.methodLink RX6 143 yX6_isHolder ∈ wsAll := mem_tb 228 (by decide +kernel) (by decide +kernel)
theorem ml_X6_146 : Cond.methodLink RX6 146 yX6_bringUpToDate ∈ wsAll := mem_tb 327 (by decide +kernel) (by decide +kernel)
theorem ml_X6_159 : Cond.methodLink RX6 159 yX6_has ∈ wsAll := mem_tb 403 (by decide +kernel) (by decide +kernel)
theorem ml_X6_166 : Cond.methodLink RX6 166 yX6_wayOfControl ∈ wsAll := mem_tb 412 (by decide +kernel) (by decide +kernel)
theorem ml_X6_173 : Cond.methodLink RX6 173 yX6_finalBlock ∈ wsAll := mem_tb 416 (by decide +kernel) (by decide +kernel)
theorem ml_X6_176 : Cond.methodLink RX6 176 yX1_witnessOf ∈ wsAll := mem_tb 422 (by decide +kernel) (by decide +kernel)
theorem ml_X6_180 : Cond.methodLink RX6 180 yX1_chainOf ∈ wsAll := mem_tb 436 (by decide +kernel) (by decide +kernel)
theorem ml_X6_183 : Cond.methodLink RX6 183 yX1_thoseOver ∈ wsAll := mem_tb 445 (by decide +kernel) (by decide +kernel)
theorem ml_X6_187 : Cond.methodLink RX6 187 yX6_holderOf ∈ wsAll := mem_tb 237 (by decide +kernel) (by decide +kernel)
theorem ml_X6_190 : Cond.methodLink RX6 190 yX6_trace ∈ wsAll := mem_tb 453 (by decide +kernel) (by decide +kernel)
theorem ml_X6_193 : Cond.methodLink RX6 193 yX5_firstDay ∈ wsAll := mem_tb 482 (by decide +kernel) (by decide +kernel)
theorem ml_X6_197 : Cond.methodLink RX6 197 yX6_fewestToSell ∈ wsAll := mem_tb 494 (by decide +kernel) (by decide +kernel)
theorem ml_X6_200 : Cond.methodLink RX6 200 yX6_fewestToBuy ∈ wsAll := mem_tb 509 (by decide +kernel) (by decide +kernel)
theorem ml_X6_203 : Cond.methodLink RX6 203 yX5_ofEvent ∈ wsAll := mem_tb 517 (by decide +kernel) (by decide +kernel)
theorem ml_X6_206 : Cond.methodLink RX6 206 yX6_isPerson ∈ wsAll := mem_tb 525 (by decide +kernel) (by decide +kernel)
theorem ml_X6_213 : Cond.methodLink RX6 213 yX4_upper ∈ wsAll := mem_tb 530 (by decide +kernel) (by decide +kernel)
theorem ml_X6_217 : Cond.methodLink RX6 217 yX4_lower ∈ wsAll := mem_tb 534 (by decide +kernel) (by decide +kernel)
theorem ml_X6_221 : Cond.methodLink RX6 221 yX6_inLowestTerms ∈ wsAll := mem_tb 538 (by decide +kernel) (by decide +kernel)
theorem ml_X6_225 : Cond.methodLink RX6 225 yX4_upperOfNobody ∈ wsAll := mem_tb 548 (by decide +kernel) (by decide +kernel)
theorem ml_X6_228 : Cond.methodLink RX6 228 yX4_rankOf ∈ wsAll := mem_tb 558 (by decide +kernel) (by decide +kernel)
theorem ml_X6_231 : Cond.methodLink RX6 231 yX4_personsAbove ∈ wsAll := mem_tb 567 (by decide +kernel) (by decide +kernel)
theorem ml_X6_234 : Cond.methodLink RX6 234 yX3_circleOf ∈ wsAll := mem_tb 575 (by decide +kernel) (by decide +kernel)
theorem ml_X6_237 : Cond.methodLink RX6 237 yX6_imageAt ∈ wsAll := mem_tb 583 (by decide +kernel) (by decide +kernel)
theorem ml_X6_241 : Cond.methodLink RX6 241 yX0_copyFrom ∈ wsAll := mem_tb 587 (by decide +kernel) (by decide +kernel)
theorem ml_X6_248 : Cond.methodLink RX6 248 yX0_unlikeDay ∈ wsAll := mem_tb 599 (by decide +kernel) (by decide +kernel)
theorem ml_X6_251 : Cond.methodLink RX6 251 yX0_doneBy ∈ wsAll := mem_tb 331 (by decide +kernel) (by decide +kernel)
theorem ml_X6_254 : Cond.methodLink RX6 254 yX1_mostRounds ∈ wsAll := mem_tb 604 (by decide +kernel) (by decide +kernel)
theorem ml_X6_264 : Cond.methodLink RX6 264 yX0_append ∈ wsAll := mem_tb 244 (by decide +kernel) (by decide +kernel)
theorem ml_X6_268 : Cond.methodLink RX6 268 yX2_beginAgain ∈ wsAll := mem_tb 256 (by decide +kernel) (by decide +kernel)
theorem ml_X6_274 : Cond.methodLink RX6 274 yX2_carryOut ∈ wsAll := mem_tb 260 (by decide +kernel) (by decide +kernel)
theorem ml_X6_281 : Cond.methodLink RX6 281 yX1_workOutAll ∈ wsAll := mem_tb 336 (by decide +kernel) (by decide +kernel)
theorem ml_X6_285 : Cond.methodLink RX6 285 yX4_workOut ∈ wsAll := mem_tb 366 (by decide +kernel) (by decide +kernel)
theorem ml_X6_289 : Cond.methodLink RX6 289 yX3_workOut ∈ wsAll := mem_tb 394 (by decide +kernel) (by decide +kernel)
theorem ml_X6_290 : Cond.methodLink RX6 290 yX5_workOut ∈ wsAll := mem_tb 457 (by decide +kernel) (by decide +kernel)
theorem ml_X6_293 : Cond.methodLink RX6 293 yX2_allies ∈ wsAll := mem_tb 420 (by decide +kernel) (by decide +kernel)
theorem ml_X6_296 : Cond.methodLink RX6 296 yX2_block ∈ wsAll := mem_tb 421 (by decide +kernel) (by decide +kernel)
theorem ml_X6_299 : Cond.methodLink RX6 299 yX2_copyFrom ∈ wsAll := mem_tb 498 (by decide +kernel) (by decide +kernel)
theorem ml_X6_301 : Cond.methodLink RX6 301 yX6_wouldControl ∈ wsAll := mem_tb 503 (by decide +kernel) (by decide +kernel)
theorem ml_X6_304 : Cond.methodLink RX6 304 yX2_move ∈ wsAll := mem_tb 508 (by decide +kernel) (by decide +kernel)
theorem ml_X6_308 : Cond.methodLink RX6 308 yX1_workOut ∈ wsAll := mem_tb 507 (by decide +kernel) (by decide +kernel)
theorem ml_X6_311 : Cond.methodLink RX6 311 yX6_commonDivisor ∈ wsAll := mem_tb 541 (by decide +kernel) (by decide +kernel)
theorem ml_X7_66 : Cond.methodLink RX7 66 yX7_in ∈ wsAll := mem_tb 702 (by decide +kernel) (by decide +kernel)
theorem ml_X7_74 : Cond.methodLink RX7 74 yX7_placeOf ∈ wsAll := mem_tb 724 (by decide +kernel) (by decide +kernel)
theorem ml_X7_78 : Cond.methodLink RX7 78 yX7_at ∈ wsAll := mem_tb 732 (by decide +kernel) (by decide +kernel)
theorem ml_X7_82 : Cond.methodLink RX7 82 yX7_begin ∈ wsAll := mem_tb 720 (by decide +kernel) (by decide +kernel)
theorem ml_X7_85 : Cond.methodLink RX7 85 yX7_does ∈ wsAll := mem_tb 728 (by decide +kernel) (by decide +kernel)
theorem ml_X7_89 : Cond.methodLink RX7 89 yX7_lay ∈ wsAll := mem_tb 716 (by decide +kernel) (by decide +kernel)
theorem ml_X7_93 : Cond.methodLink RX7 93 yX7_isFirm ∈ wsAll := mem_tb 705 (by decide +kernel) (by decide +kernel)
theorem ml_X7_96 : Cond.methodLink RX7 96 yX7_put ∈ wsAll := mem_tb 708 (by decide +kernel) (by decide +kernel)
theorem ml_X7_100 : Cond.methodLink RX7 100 yX7_add ∈ wsAll := mem_tb 712 (by decide +kernel) (by decide +kernel)
theorem ml_X7_104 : Cond.methodLink RX7 104 yX7_sell ∈ wsAll := mem_tb 698 (by decide +kernel) (by decide +kernel)
theorem ml_X7_108 : Cond.methodLink RX7 108 yX7_isOne ∈ wsAll := mem_tb 743 (by decide +kernel) (by decide +kernel)
theorem ml_X7_111 : Cond.methodLink RX7 111 yX7_isDeal ∈ wsAll := mem_tb 750 (by decide +kernel) (by decide +kernel)
theorem ml_X7_117 : Cond.methodLink RX7 117 yX7_has ∈ wsAll := mem_tb 778 (by decide +kernel) (by decide +kernel)
theorem ml_X7_120 : Cond.methodLink RX7 120 yX7_isWith ∈ wsAll := mem_tb 789 (by decide +kernel) (by decide +kernel)
theorem ml_X7_123 : Cond.methodLink RX7 123 yX7_block ∈ wsAll := mem_tb 785 (by decide +kernel) (by decide +kernel)
theorem ml_X7_130 : Cond.methodLink RX7 130 yX7_falls ∈ wsAll := mem_tb 781 (by decide +kernel) (by decide +kernel)
theorem ml_X7_133 : Cond.methodLink RX7 133 yX7_control ∈ wsAll := mem_tb 774 (by decide +kernel) (by decide +kernel)
theorem ml_X7_136 : Cond.methodLink RX7 136 yX7_many ∈ wsAll := mem_tb 803 (by decide +kernel) (by decide +kernel)
theorem ml_X7_139 : Cond.methodLink RX7 139 yX7_witness ∈ wsAll := mem_tb 799 (by decide +kernel) (by decide +kernel)
theorem ml_X7_142 : Cond.methodLink RX7 142 yX7_areKnown ∈ wsAll := mem_tb 796 (by decide +kernel) (by decide +kernel)
theorem ml_X7_145 : Cond.methodLink RX7 145 yX7_chain ∈ wsAll := mem_tb 806 (by decide +kernel) (by decide +kernel)
theorem ml_X7_148 : Cond.methodLink RX7 148 yX7_dayBehind ∈ wsAll := mem_tb 818 (by decide +kernel) (by decide +kernel)
theorem ml_X7_163 : Cond.methodLink RX7 163 yX7_events ∈ wsAll := mem_tb 830 (by decide +kernel) (by decide +kernel)
theorem ml_X7_166 : Cond.methodLink RX7 166 yX7_over ∈ wsAll := mem_tb 857 (by decide +kernel) (by decide +kernel)
theorem ml_X7_169 : Cond.methodLink RX7 169 yX7_locked ∈ wsAll := mem_tb 848 (by decide +kernel) (by decide +kernel)
theorem ml_X7_174 : Cond.methodLink RX7 174 yX7_layRows ∈ wsAll := mem_tb 844 (by decide +kernel) (by decide +kernel)
theorem ml_X7_177 : Cond.methodLink RX7 177 yX7_determinant ∈ wsAll := mem_tb 853 (by decide +kernel) (by decide +kernel)
theorem ml_X7_185 : Cond.methodLink RX7 185 yX7_upper ∈ wsAll := mem_tb 840 (by decide +kernel) (by decide +kernel)
theorem ml_X7_189 : Cond.methodLink RX7 189 yX7_lower ∈ wsAll := mem_tb 860 (by decide +kernel) (by decide +kernel)
theorem ml_X7_192 : Cond.methodLink RX7 192 yX7_part ∈ wsAll := mem_tb 864 (by decide +kernel) (by decide +kernel)
theorem ml_X7_196 : Cond.methodLink RX7 196 yX7_layUppers ∈ wsAll := mem_tb 875 (by decide +kernel) (by decide +kernel)
theorem ml_X7_200 : Cond.methodLink RX7 200 yX7_done ∈ wsAll := mem_tb 899 (by decide +kernel) (by decide +kernel)
theorem ml_X7_203 : Cond.methodLink RX7 203 yX7_mostRounds ∈ wsAll := mem_tb 903 (by decide +kernel) (by decide +kernel)
theorem ml_X7_206 : Cond.methodLink RX7 206 yX7_unlikeDay ∈ wsAll := mem_tb 907 (by decide +kernel) (by decide +kernel)
theorem ne_X0_62 : (RX0, 62, yX6_asNumber) ∈ nests := by decide +kernel
theorem ne_X1_31 : (RX1, 31, yX6_has) ∈ nests := by decide +kernel
theorem ne_X2_68 : (RX2, 68, yX6_has) ∈ nests := by decide +kernel
theorem ne_X2_72 : (RX2, 72, yX6_holderOf) ∈ nests := by decide +kernel
theorem ne_X3_19 : (RX3, 19, yX6_has) ∈ nests := by decide +kernel
theorem ne_X3_29 : (RX3, 29, yX6_holderOf) ∈ nests := by decide +kernel
theorem ne_X4_31 : (RX4, 31, yX6_has) ∈ nests := by decide +kernel
theorem ne_X4_45 : (RX4, 45, yX6_holderOf) ∈ nests := by decide +kernel
theorem ne_X4_63 : (RX4, 63, yX6_asNumber) ∈ nests := by decide +kernel
theorem ne_X5_71 : (RX5, 71, yX6_asNumber) ∈ nests := by decide +kernel
theorem ne_X5_75 : (RX5, 75, yX6_has) ∈ nests := by decide +kernel
theorem cl_X4_49 : Cond.constantLong RX4 49 100 ∈ wsAll := mem_tb 385 (by decide +kernel) (by decide +kernel)
theorem cl_X6_209 : Cond.constantLong RX6 209 (-1) ∈ wsAll := mem_tb 528 (by decide +kernel) (by decide +kernel)
theorem cl_X6_211 : Cond.constantLong RX6 211 (-2) ∈ wsAll := mem_tb 529 (by decide +kernel) (by decide +kernel)
theorem cl_X7_172 : Cond.constantLong RX7 172 100 ∈ wsAll := mem_tb 852 (by decide +kernel) (by decide +kernel)
theorem cl_X7_181 : Cond.constantLong RX7 181 (-1) ∈ wsAll := mem_tb 838 (by decide +kernel) (by decide +kernel)
theorem cl_X7_183 : Cond.constantLong RX7 183 (-2) ∈ wsAll := mem_tb 839 (by decide +kernel) (by decide +kernel)
theorem ci_J6_265 : Cond.constant RJ6 265 1431655765 ∈ wsAll := mem_tb 433 (by decide +kernel) (by decide +kernel)
theorem ci_J6_266 : Cond.constant RJ6 266 858993459 ∈ wsAll := mem_tb 434 (by decide +kernel) (by decide +kernel)
theorem ci_J6_267 : Cond.constant RJ6 267 252645135 ∈ wsAll := mem_tb 435 (by decide +kernel) (by decide +kernel)
theorem ac_native : Cond.native arraycopyName ∈ wsAll := mem_tb 277 (by decide +kernel) (by decide +kernel)
theorem ac_static : Cond.static arraycopyName ∈ wsAll := mem_tb 276 (by decide +kernel) (by decide +kernel)
theorem ac_init : Cond.initialized "java/lang/System" ∈ wsAll := mem_tb 9 (by decide +kernel) (by decide +kernel)
theorem mm_link : Cond.methodLink RX1 55 Lib.Math.max.name ∈ wsAll := mem_tb 608 (by decide +kernel) (by decide +kernel)
theorem mm_static : Cond.static Lib.Math.max.name ∈ wsAll := mem_tb 609 (by decide +kernel) (by decide +kernel)
theorem mm_init : Cond.initialized "java/lang/Math" ∈ wsAll := mem_tb 11 (by decide +kernel) (by decide +kernel)
theorem mm_code : Cond.code Lib.Math.max.name Lib.Math.max.code 2 (some .int) ∈ wsAll := mem_tb 610 (by decide +kernel) (by decide +kernel)
theorem yv_J6_bitCount_0f7a4 : yS yJ6_bitCount_0f7a4 cJ6_bitCount_0f7a4 1 (some .int) 1 := ⟨⟨mem_tb 432 (by decide +kernel) (by decide +kernel), mem_tb 10 (by decide +kernel) (by decide +kernel), by decide +kernel⟩, mem_tb 431 (by decide +kernel) (by decide +kernel)⟩
theorem yv_X0_append : yV yX0_append cX0_append 7 none 6 := ⟨⟨mem_tb 247 (by decide +kernel) (by decide +kernel), mem_tb 2 (by decide +kernel) (by decide +kernel), by decide +kernel⟩, mem_tb 245 (by decide +kernel) (by decide +kernel), mem_tb 246 (by decide +kernel) (by decide +kernel)⟩
theorem yv_X0_arrange : yV yX0_arrange cX0_arrange 3 none 0 := ⟨⟨mem_tb 251 (by decide +kernel) (by decide +kernel), mem_tb 2 (by decide +kernel) (by decide +kernel), by decide +kernel⟩, mem_tb 250 (by decide +kernel) (by decide +kernel), mem_sl 2 (by decide +kernel) (by decide +kernel)⟩
theorem yv_X0_closeGap : yV yX0_closeGap cX0_closeGap 3 none 2 := ⟨⟨mem_tb 274 (by decide +kernel) (by decide +kernel), mem_tb 2 (by decide +kernel) (by decide +kernel), by decide +kernel⟩, mem_tb 273 (by decide +kernel) (by decide +kernel), mem_sl 4 (by decide +kernel) (by decide +kernel)⟩
theorem yv_X0_copyFrom : yV yX0_copyFrom cX0_copyFrom 2 none 1 := ⟨⟨mem_tb 590 (by decide +kernel) (by decide +kernel), mem_tb 2 (by decide +kernel) (by decide +kernel), by decide +kernel⟩, mem_tb 588 (by decide +kernel) (by decide +kernel), mem_tb 589 (by decide +kernel) (by decide +kernel)⟩
theorem yv_X0_doneBy : yV yX0_doneBy cX0_doneBy 4 (some .int) 1 := ⟨⟨mem_tb 334 (by decide +kernel) (by decide +kernel), mem_tb 2 (by decide +kernel) (by decide +kernel), by decide +kernel⟩, mem_tb 332 (by decide +kernel) (by decide +kernel), mem_tb 333 (by decide +kernel) (by decide +kernel)⟩
theorem yv_X0_isLastOfItsDay : yV yX0_isLastOfItsDay cX0_isLastOfItsDay 2 (some .boolean) 1 := ⟨⟨mem_tb 466 (by decide +kernel) (by decide +kernel), mem_tb 2 (by decide +kernel) (by decide +kernel), by decide +kernel⟩, mem_tb 464 (by decide +kernel) (by decide +kernel), mem_tb 465 (by decide +kernel) (by decide +kernel)⟩
theorem yv_X0_placeOf : yV yX0_placeOf cX0_placeOf 3 (some .int) 1 := ⟨⟨mem_tb 311 (by decide +kernel) (by decide +kernel), mem_tb 2 (by decide +kernel) (by decide +kernel), by decide +kernel⟩, mem_tb 309 (by decide +kernel) (by decide +kernel), mem_tb 310 (by decide +kernel) (by decide +kernel)⟩
theorem yv_X0_strike : yV yX0_strike cX0_strike 2 none 1 := ⟨⟨mem_tb 270 (by decide +kernel) (by decide +kernel), mem_tb 2 (by decide +kernel) (by decide +kernel), by decide +kernel⟩, mem_tb 268 (by decide +kernel) (by decide +kernel), mem_tb 269 (by decide +kernel) (by decide +kernel)⟩
theorem yv_X0_unlikeDay : yV yX0_unlikeDay cX0_unlikeDay 4 (some .int) 1 := ⟨⟨mem_tb 602 (by decide +kernel) (by decide +kernel), mem_tb 2 (by decide +kernel) (by decide +kernel), by decide +kernel⟩, mem_tb 600 (by decide +kernel) (by decide +kernel), mem_tb 601 (by decide +kernel) (by decide +kernel)⟩
theorem yv_X1_chainOf : yV yX1_chainOf cX1_chainOf 8 (some .int) 4 := ⟨⟨mem_tb 439 (by decide +kernel) (by decide +kernel), mem_tb 4 (by decide +kernel) (by decide +kernel), by decide +kernel⟩, mem_tb 437 (by decide +kernel) (by decide +kernel), mem_tb 438 (by decide +kernel) (by decide +kernel)⟩
theorem yv_X1_firmsBefore : yV yX1_firmsBefore cX1_firmsBefore 5 (some .int) 2 := ⟨⟨mem_tb 429 (by decide +kernel) (by decide +kernel), mem_tb 4 (by decide +kernel) (by decide +kernel), by decide +kernel⟩, mem_tb 428 (by decide +kernel) (by decide +kernel), mem_sl 15 (by decide +kernel) (by decide +kernel)⟩
theorem yv_X1_mostRounds : yV yX1_mostRounds cX1_mostRounds 3 (some .int) 0 := ⟨⟨mem_tb 607 (by decide +kernel) (by decide +kernel), mem_tb 4 (by decide +kernel) (by decide +kernel), by decide +kernel⟩, mem_tb 605 (by decide +kernel) (by decide +kernel), mem_tb 606 (by decide +kernel) (by decide +kernel)⟩
theorem yv_X1_newFirms : yV yX1_newFirms cX1_newFirms 6 (some .int) 3 := ⟨⟨mem_tb 347 (by decide +kernel) (by decide +kernel), mem_tb 4 (by decide +kernel) (by decide +kernel), by decide +kernel⟩, mem_tb 346 (by decide +kernel) (by decide +kernel), mem_sl 8 (by decide +kernel) (by decide +kernel)⟩
theorem yv_X1_thoseOver : yV yX1_thoseOver cX1_thoseOver 6 (some .int) 3 := ⟨⟨mem_tb 448 (by decide +kernel) (by decide +kernel), mem_tb 4 (by decide +kernel) (by decide +kernel), by decide +kernel⟩, mem_tb 446 (by decide +kernel) (by decide +kernel), mem_tb 447 (by decide +kernel) (by decide +kernel)⟩
theorem yv_X1_witnessOf : yV yX1_witnessOf cX1_witnessOf 9 (some .int) 4 := ⟨⟨mem_tb 425 (by decide +kernel) (by decide +kernel), mem_tb 4 (by decide +kernel) (by decide +kernel), by decide +kernel⟩, mem_tb 423 (by decide +kernel) (by decide +kernel), mem_tb 424 (by decide +kernel) (by decide +kernel)⟩
theorem yv_X1_workOut : yV yX1_workOut cX1_workOut 7 none 3 := ⟨⟨mem_tb 343 (by decide +kernel) (by decide +kernel), mem_tb 4 (by decide +kernel) (by decide +kernel), by decide +kernel⟩, mem_tb 341 (by decide +kernel) (by decide +kernel), mem_tb 342 (by decide +kernel) (by decide +kernel)⟩
theorem yv_X1_workOutAll : yV yX1_workOutAll cX1_workOutAll 4 none 2 := ⟨⟨mem_tb 339 (by decide +kernel) (by decide +kernel), mem_tb 4 (by decide +kernel) (by decide +kernel), by decide +kernel⟩, mem_tb 337 (by decide +kernel) (by decide +kernel), mem_tb 338 (by decide +kernel) (by decide +kernel)⟩
theorem yv_X2_allies : yS yX2_allies cX2_allies 2 (some .int) 2 := ⟨⟨mem_tb 357 (by decide +kernel) (by decide +kernel), mem_tb 3 (by decide +kernel) (by decide +kernel), by decide +kernel⟩, mem_tb 356 (by decide +kernel) (by decide +kernel)⟩
theorem yv_X2_beginAgain : yV yX2_beginAgain cX2_beginAgain 4 none 0 := ⟨⟨mem_tb 259 (by decide +kernel) (by decide +kernel), mem_tb 3 (by decide +kernel) (by decide +kernel), by decide +kernel⟩, mem_tb 257 (by decide +kernel) (by decide +kernel), mem_tb 258 (by decide +kernel) (by decide +kernel)⟩
theorem yv_X2_block : yV yX2_block cX2_block 5 (some .int) 2 := ⟨⟨mem_tb 361 (by decide +kernel) (by decide +kernel), mem_tb 3 (by decide +kernel) (by decide +kernel), by decide +kernel⟩, mem_tb 359 (by decide +kernel) (by decide +kernel), mem_tb 360 (by decide +kernel) (by decide +kernel)⟩
theorem yv_X2_carryOut : yV yX2_carryOut cX2_carryOut 5 (some .boolean) 2 := ⟨⟨mem_tb 263 (by decide +kernel) (by decide +kernel), mem_tb 3 (by decide +kernel) (by decide +kernel), by decide +kernel⟩, mem_tb 261 (by decide +kernel) (by decide +kernel), mem_tb 262 (by decide +kernel) (by decide +kernel)⟩
theorem yv_X2_copyFrom : yV yX2_copyFrom cX2_copyFrom 3 none 1 := ⟨⟨mem_tb 501 (by decide +kernel) (by decide +kernel), mem_tb 3 (by decide +kernel) (by decide +kernel), by decide +kernel⟩, mem_tb 499 (by decide +kernel) (by decide +kernel), mem_tb 500 (by decide +kernel) (by decide +kernel)⟩
theorem yv_X2_falls : yV yX2_falls cX2_falls 7 (some .boolean) 4 := ⟨⟨mem_tb 354 (by decide +kernel) (by decide +kernel), mem_tb 3 (by decide +kernel) (by decide +kernel), by decide +kernel⟩, mem_tb 352 (by decide +kernel) (by decide +kernel), mem_tb 353 (by decide +kernel) (by decide +kernel)⟩
theorem yv_X2_isMatched : yV yX2_isMatched cX2_isMatched 5 (some .boolean) 3 := ⟨⟨mem_tb 365 (by decide +kernel) (by decide +kernel), mem_tb 3 (by decide +kernel) (by decide +kernel), by decide +kernel⟩, mem_tb 364 (by decide +kernel) (by decide +kernel), mem_sl 9 (by decide +kernel) (by decide +kernel)⟩
theorem yv_X2_move : yS yX2_move cX2_move 4 (some .boolean) 4 := ⟨⟨mem_tb 266 (by decide +kernel) (by decide +kernel), mem_tb 3 (by decide +kernel) (by decide +kernel), by decide +kernel⟩, mem_tb 265 (by decide +kernel) (by decide +kernel)⟩
theorem yv_X2_sharesHeldBy : yV yX2_sharesHeldBy cX2_sharesHeldBy 5 (some .int) 2 := ⟨⟨mem_tb 377 (by decide +kernel) (by decide +kernel), mem_tb 3 (by decide +kernel) (by decide +kernel), by decide +kernel⟩, mem_tb 375 (by decide +kernel) (by decide +kernel), mem_tb 376 (by decide +kernel) (by decide +kernel)⟩
theorem yv_X3_circleOf : yV yX3_circleOf cX3_circleOf 4 (some .int) 1 := ⟨⟨mem_tb 578 (by decide +kernel) (by decide +kernel), mem_tb 6 (by decide +kernel) (by decide +kernel), by decide +kernel⟩, mem_tb 576 (by decide +kernel) (by decide +kernel), mem_tb 577 (by decide +kernel) (by decide +kernel)⟩
theorem yv_X3_firmsWithShareOf : yS yX3_firmsWithShareOf cX3_firmsWithShareOf 4 (some .int) 2 := ⟨⟨mem_tb 400 (by decide +kernel) (by decide +kernel), mem_tb 6 (by decide +kernel) (by decide +kernel), by decide +kernel⟩, mem_tb 399 (by decide +kernel) (by decide +kernel)⟩
theorem yv_X3_workOut : yV yX3_workOut cX3_workOut 4 none 1 := ⟨⟨mem_tb 397 (by decide +kernel) (by decide +kernel), mem_tb 6 (by decide +kernel) (by decide +kernel), by decide +kernel⟩, mem_tb 395 (by decide +kernel) (by decide +kernel), mem_tb 396 (by decide +kernel) (by decide +kernel)⟩
theorem yv_X4_eliminate : yV yX4_eliminate cX4_eliminate 10 none 3 := ⟨⟨mem_tb 393 (by decide +kernel) (by decide +kernel), mem_tb 5 (by decide +kernel) (by decide +kernel), by decide +kernel⟩, mem_tb 392 (by decide +kernel) (by decide +kernel), mem_sl 12 (by decide +kernel) (by decide +kernel)⟩
theorem yv_X4_lockedFirms : yS yX4_lockedFirms cX4_lockedFirms 4 (some .int) 1 := ⟨⟨mem_tb 372 (by decide +kernel) (by decide +kernel), mem_tb 5 (by decide +kernel) (by decide +kernel), by decide +kernel⟩, mem_tb 371 (by decide +kernel) (by decide +kernel)⟩
theorem yv_X4_lower : yV yX4_lower cX4_lower 2 (some .long) 1 := ⟨⟨mem_tb 537 (by decide +kernel) (by decide +kernel), mem_tb 5 (by decide +kernel) (by decide +kernel), by decide +kernel⟩, mem_tb 535 (by decide +kernel) (by decide +kernel), mem_tb 536 (by decide +kernel) (by decide +kernel)⟩
theorem yv_X4_personsAbove : yV yX4_personsAbove cX4_personsAbove 5 (some .int) 2 := ⟨⟨mem_tb 570 (by decide +kernel) (by decide +kernel), mem_tb 5 (by decide +kernel) (by decide +kernel), by decide +kernel⟩, mem_tb 568 (by decide +kernel) (by decide +kernel), mem_tb 569 (by decide +kernel) (by decide +kernel)⟩
theorem yv_X4_rankOf : yV yX4_rankOf cX4_rankOf 6 (some .int) 2 := ⟨⟨mem_tb 561 (by decide +kernel) (by decide +kernel), mem_tb 5 (by decide +kernel) (by decide +kernel), by decide +kernel⟩, mem_tb 559 (by decide +kernel) (by decide +kernel), mem_tb 560 (by decide +kernel) (by decide +kernel)⟩
theorem yv_X4_solve : yV yX4_solve cX4_solve 5 none 0 := ⟨⟨mem_tb 389 (by decide +kernel) (by decide +kernel), mem_tb 5 (by decide +kernel) (by decide +kernel), by decide +kernel⟩, mem_tb 388 (by decide +kernel) (by decide +kernel), mem_sl 11 (by decide +kernel) (by decide +kernel)⟩
theorem yv_X4_upper : yV yX4_upper cX4_upper 3 (some .long) 2 := ⟨⟨mem_tb 533 (by decide +kernel) (by decide +kernel), mem_tb 5 (by decide +kernel) (by decide +kernel), by decide +kernel⟩, mem_tb 531 (by decide +kernel) (by decide +kernel), mem_tb 532 (by decide +kernel) (by decide +kernel)⟩
theorem yv_X4_upperOfNobody : yV yX4_upperOfNobody cX4_upperOfNobody 5 (some .long) 1 := ⟨⟨mem_tb 551 (by decide +kernel) (by decide +kernel), mem_tb 5 (by decide +kernel) (by decide +kernel), by decide +kernel⟩, mem_tb 549 (by decide +kernel) (by decide +kernel), mem_tb 550 (by decide +kernel) (by decide +kernel)⟩
theorem yv_X4_workOut : yV yX4_workOut cX4_workOut 3 none 1 := ⟨⟨mem_tb 369 (by decide +kernel) (by decide +kernel), mem_tb 5 (by decide +kernel) (by decide +kernel), by decide +kernel⟩, mem_tb 367 (by decide +kernel) (by decide +kernel), mem_tb 368 (by decide +kernel) (by decide +kernel)⟩
theorem yv_X4_writeRow : yV yX4_writeRow cX4_writeRow 6 none 2 := ⟨⟨mem_tb 383 (by decide +kernel) (by decide +kernel), mem_tb 5 (by decide +kernel) (by decide +kernel), by decide +kernel⟩, mem_tb 382 (by decide +kernel) (by decide +kernel), mem_sl 10 (by decide +kernel) (by decide +kernel)⟩
theorem yv_X5_firstDay : yV yX5_firstDay cX5_firstDay 7 (some .int) 4 := ⟨⟨mem_tb 485 (by decide +kernel) (by decide +kernel), mem_tb 7 (by decide +kernel) (by decide +kernel), by decide +kernel⟩, mem_tb 483 (by decide +kernel) (by decide +kernel), mem_tb 484 (by decide +kernel) (by decide +kernel)⟩
theorem yv_X5_isControlled : yV yX5_isControlled cX5_isControlled 4 (some .boolean) 3 := ⟨⟨mem_tb 479 (by decide +kernel) (by decide +kernel), mem_tb 7 (by decide +kernel) (by decide +kernel), by decide +kernel⟩, mem_tb 478 (by decide +kernel) (by decide +kernel), mem_sl 19 (by decide +kernel) (by decide +kernel)⟩
theorem yv_X5_lastBy : yV yX5_lastBy cX5_lastBy 4 (some .int) 1 := ⟨⟨mem_tb 489 (by decide +kernel) (by decide +kernel), mem_tb 7 (by decide +kernel) (by decide +kernel), by decide +kernel⟩, mem_tb 488 (by decide +kernel) (by decide +kernel), mem_sl 20 (by decide +kernel) (by decide +kernel)⟩
theorem yv_X5_listEvent : yV yX5_listEvent cX5_listEvent 5 none 3 := ⟨⟨mem_tb 475 (by decide +kernel) (by decide +kernel), mem_tb 7 (by decide +kernel) (by decide +kernel), by decide +kernel⟩, mem_tb 474 (by decide +kernel) (by decide +kernel), mem_sl 18 (by decide +kernel) (by decide +kernel)⟩
theorem yv_X5_listEvents : yV yX5_listEvents cX5_listEvents 4 none 0 := ⟨⟨mem_tb 471 (by decide +kernel) (by decide +kernel), mem_tb 7 (by decide +kernel) (by decide +kernel), by decide +kernel⟩, mem_tb 470 (by decide +kernel) (by decide +kernel), mem_sl 17 (by decide +kernel) (by decide +kernel)⟩
theorem yv_X5_ofEvent : yV yX5_ofEvent cX5_ofEvent 4 (some .int) 2 := ⟨⟨mem_tb 520 (by decide +kernel) (by decide +kernel), mem_tb 7 (by decide +kernel) (by decide +kernel), by decide +kernel⟩, mem_tb 518 (by decide +kernel) (by decide +kernel), mem_tb 519 (by decide +kernel) (by decide +kernel)⟩
theorem yv_X5_workOut : yV yX5_workOut cX5_workOut 7 none 3 := ⟨⟨mem_tb 460 (by decide +kernel) (by decide +kernel), mem_tb 7 (by decide +kernel) (by decide +kernel), by decide +kernel⟩, mem_tb 458 (by decide +kernel) (by decide +kernel), mem_tb 459 (by decide +kernel) (by decide +kernel)⟩
theorem yv_X6_above : yV yX6_above cX6_above 3 (some .int) 2 := ⟨⟨mem_tb 444 (by decide +kernel) (by decide +kernel), mem_tb 1 (by decide +kernel) (by decide +kernel), by decide +kernel⟩, mem_tb 442 (by decide +kernel) (by decide +kernel), mem_tb 443 (by decide +kernel) (by decide +kernel)⟩
theorem yv_X6_allIsChanged : yV yX6_allIsChanged cX6_allIsChanged 1 none 0 := ⟨⟨mem_tb 281 (by decide +kernel) (by decide +kernel), mem_tb 1 (by decide +kernel) (by decide +kernel), by decide +kernel⟩, mem_tb 280 (by decide +kernel) (by decide +kernel), mem_sl 5 (by decide +kernel) (by decide +kernel)⟩
theorem yv_X6_asNumber : yS yX6_asNumber cX6_asNumber 1 (some .int) 1 := ⟨⟨mem_tb 314 (by decide +kernel) (by decide +kernel), mem_tb 1 (by decide +kernel) (by decide +kernel), by decide +kernel⟩, mem_tb 313 (by decide +kernel) (by decide +kernel)⟩
theorem yv_X6_bringUpToDate : yV yX6_bringUpToDate cX6_bringUpToDate 3 none 0 := ⟨⟨mem_tb 330 (by decide +kernel) (by decide +kernel), mem_tb 1 (by decide +kernel) (by decide +kernel), by decide +kernel⟩, mem_tb 329 (by decide +kernel) (by decide +kernel), mem_sl 7 (by decide +kernel) (by decide +kernel)⟩
theorem yv_X6_cancel : yV yX6_cancel cX6_cancel 2 (some .int) 1 := ⟨⟨mem_tb 299 (by decide +kernel) (by decide +kernel), mem_tb 1 (by decide +kernel) (by decide +kernel), by decide +kernel⟩, mem_tb 297 (by decide +kernel) (by decide +kernel), mem_tb 298 (by decide +kernel) (by decide +kernel)⟩
theorem yv_X6_circle : yV yX6_circle cX6_circle 2 (some .int) 1 := ⟨⟨mem_tb 574 (by decide +kernel) (by decide +kernel), mem_tb 1 (by decide +kernel) (by decide +kernel), by decide +kernel⟩, mem_tb 572 (by decide +kernel) (by decide +kernel), mem_tb 573 (by decide +kernel) (by decide +kernel)⟩
theorem yv_X6_commonDivisor : yS yX6_commonDivisor cX6_commonDivisor 11 (some .long) 2 := ⟨⟨mem_tb 543 (by decide +kernel) (by decide +kernel), mem_tb 1 (by decide +kernel) (by decide +kernel), by decide +kernel⟩, mem_tb 542 (by decide +kernel) (by decide +kernel)⟩
theorem yv_X6_controls : yV yX6_controls cX6_controls 2 (some .int) 1 := ⟨⟨mem_tb 407 (by decide +kernel) (by decide +kernel), mem_tb 1 (by decide +kernel) (by decide +kernel), by decide +kernel⟩, mem_tb 405 (by decide +kernel) (by decide +kernel), mem_tb 406 (by decide +kernel) (by decide +kernel)⟩
theorem yv_X6_count : yV yX6_count cX6_count 2 (some .int) 1 := ⟨⟨mem_tb 598 (by decide +kernel) (by decide +kernel), mem_tb 1 (by decide +kernel) (by decide +kernel), by decide +kernel⟩, mem_tb 596 (by decide +kernel) (by decide +kernel), mem_tb 597 (by decide +kernel) (by decide +kernel)⟩
theorem yv_X6_enter : yV yX6_enter cX6_enter 8 (some .int) 6 := ⟨⟨mem_tb 243 (by decide +kernel) (by decide +kernel), mem_tb 1 (by decide +kernel) (by decide +kernel), by decide +kernel⟩, mem_tb 242 (by decide +kernel) (by decide +kernel), mem_sl 1 (by decide +kernel) (by decide +kernel)⟩
theorem yv_X6_event : yV yX6_event cX6_event 3 (some .int) 2 := ⟨⟨mem_tb 516 (by decide +kernel) (by decide +kernel), mem_tb 1 (by decide +kernel) (by decide +kernel), by decide +kernel⟩, mem_tb 514 (by decide +kernel) (by decide +kernel), mem_tb 515 (by decide +kernel) (by decide +kernel)⟩
theorem yv_X6_fewest : yV yX6_fewest cX6_fewest 4 (some .int) 3 := ⟨⟨mem_tb 493 (by decide +kernel) (by decide +kernel), mem_tb 1 (by decide +kernel) (by decide +kernel), by decide +kernel⟩, mem_tb 491 (by decide +kernel) (by decide +kernel), mem_tb 492 (by decide +kernel) (by decide +kernel)⟩
theorem yv_X6_fewestToBuy : yV yX6_fewestToBuy cX6_fewestToBuy 5 (some .int) 2 := ⟨⟨mem_tb 512 (by decide +kernel) (by decide +kernel), mem_tb 1 (by decide +kernel) (by decide +kernel), by decide +kernel⟩, mem_tb 511 (by decide +kernel) (by decide +kernel), mem_sl 23 (by decide +kernel) (by decide +kernel)⟩
theorem yv_X6_fewestToSell : yV yX6_fewestToSell cX6_fewestToSell 5 (some .int) 2 := ⟨⟨mem_tb 497 (by decide +kernel) (by decide +kernel), mem_tb 1 (by decide +kernel) (by decide +kernel), by decide +kernel⟩, mem_tb 496 (by decide +kernel) (by decide +kernel), mem_sl 21 (by decide +kernel) (by decide +kernel)⟩
theorem yv_X6_finalBlock : yV yX6_finalBlock cX6_finalBlock 3 (some .int) 2 := ⟨⟨mem_tb 419 (by decide +kernel) (by decide +kernel), mem_tb 1 (by decide +kernel) (by decide +kernel), by decide +kernel⟩, mem_tb 418 (by decide +kernel) (by decide +kernel), mem_sl 14 (by decide +kernel) (by decide +kernel)⟩
theorem yv_X6_has : yS yX6_has cX6_has 2 (some .boolean) 2 := ⟨⟨mem_tb 350 (by decide +kernel) (by decide +kernel), mem_tb 1 (by decide +kernel) (by decide +kernel), by decide +kernel⟩, mem_tb 349 (by decide +kernel) (by decide +kernel)⟩
theorem yv_X6_holderOf : yS yX6_holderOf cX6_holderOf 1 (some .int) 1 := ⟨⟨mem_tb 239 (by decide +kernel) (by decide +kernel), mem_tb 1 (by decide +kernel) (by decide +kernel), by decide +kernel⟩, mem_tb 238 (by decide +kernel) (by decide +kernel)⟩
theorem yv_X6_holds : yV yX6_holds cX6_holds 4 (some .int) 3 := ⟨⟨mem_tb 326 (by decide +kernel) (by decide +kernel), mem_tb 1 (by decide +kernel) (by decide +kernel), by decide +kernel⟩, mem_tb 324 (by decide +kernel) (by decide +kernel), mem_tb 325 (by decide +kernel) (by decide +kernel)⟩
theorem yv_X6_how : yV yX6_how cX6_how 4 (some .int) 3 := ⟨⟨mem_tb 411 (by decide +kernel) (by decide +kernel), mem_tb 1 (by decide +kernel) (by decide +kernel), by decide +kernel⟩, mem_tb 409 (by decide +kernel) (by decide +kernel), mem_tb 410 (by decide +kernel) (by decide +kernel)⟩
theorem yv_X6_image : yV yX6_image cX6_image 2 (some .int) 1 := ⟨⟨mem_tb 582 (by decide +kernel) (by decide +kernel), mem_tb 1 (by decide +kernel) (by decide +kernel), by decide +kernel⟩, mem_tb 580 (by decide +kernel) (by decide +kernel), mem_tb 581 (by decide +kernel) (by decide +kernel)⟩
theorem yv_X6_imageAt : yV yX6_imageAt cX6_imageAt 2 (some (.object "ControlRegister$Book")) 1 := ⟨⟨mem_tb 586 (by decide +kernel) (by decide +kernel), mem_tb 1 (by decide +kernel) (by decide +kernel), by decide +kernel⟩, mem_tb 585 (by decide +kernel) (by decide +kernel), mem_sl 24 (by decide +kernel) (by decide +kernel)⟩
theorem yv_X6_inLowestTerms : yS yX6_inLowestTerms cX6_inLowestTerms 7 (some .long) 3 := ⟨⟨mem_tb 540 (by decide +kernel) (by decide +kernel), mem_tb 1 (by decide +kernel) (by decide +kernel), by decide +kernel⟩, mem_tb 539 (by decide +kernel) (by decide +kernel)⟩
theorem yv_X6_isController : yS yX6_isController cX6_isController 1 (some .boolean) 1 := ⟨⟨mem_tb 292 (by decide +kernel) (by decide +kernel), mem_tb 1 (by decide +kernel) (by decide +kernel), by decide +kernel⟩, mem_tb 291 (by decide +kernel) (by decide +kernel)⟩
theorem yv_X6_isDay : yS yX6_isDay cX6_isDay 1 (some .boolean) 1 := ⟨⟨mem_tb 236 (by decide +kernel) (by decide +kernel), mem_tb 1 (by decide +kernel) (by decide +kernel), by decide +kernel⟩, mem_tb 235 (by decide +kernel) (by decide +kernel)⟩
theorem yv_X6_isDeal : yV yX6_isDeal cX6_isDeal 2 (some .boolean) 1 := ⟨⟨mem_tb 303 (by decide +kernel) (by decide +kernel), mem_tb 1 (by decide +kernel) (by decide +kernel), by decide +kernel⟩, mem_tb 302 (by decide +kernel) (by decide +kernel), mem_sl 6 (by decide +kernel) (by decide +kernel)⟩
theorem yv_X6_isFirm : yS yX6_isFirm cX6_isFirm 1 (some .boolean) 1 := ⟨⟨mem_tb 233 (by decide +kernel) (by decide +kernel), mem_tb 1 (by decide +kernel) (by decide +kernel), by decide +kernel⟩, mem_tb 232 (by decide +kernel) (by decide +kernel)⟩
theorem yv_X6_isHolder : yS yX6_isHolder cX6_isHolder 1 (some .boolean) 1 := ⟨⟨mem_tb 230 (by decide +kernel) (by decide +kernel), mem_tb 1 (by decide +kernel) (by decide +kernel), by decide +kernel⟩, mem_tb 229 (by decide +kernel) (by decide +kernel)⟩
theorem yv_X6_isPerson : yS yX6_isPerson cX6_isPerson 1 (some .boolean) 1 := ⟨⟨mem_tb 527 (by decide +kernel) (by decide +kernel), mem_tb 1 (by decide +kernel) (by decide +kernel), by decide +kernel⟩, mem_tb 526 (by decide +kernel) (by decide +kernel)⟩
theorem yv_X6_isSoundWithout : yV yX6_isSoundWithout cX6_isSoundWithout 4 (some .boolean) 1 := ⟨⟨mem_tb 255 (by decide +kernel) (by decide +kernel), mem_tb 1 (by decide +kernel) (by decide +kernel), by decide +kernel⟩, mem_tb 254 (by decide +kernel) (by decide +kernel), mem_sl 3 (by decide +kernel) (by decide +kernel)⟩
theorem yv_X6_isYesOrNo : yS yX6_isYesOrNo cX6_isYesOrNo 1 (some .boolean) 1 := ⟨⟨mem_tb 295 (by decide +kernel) (by decide +kernel), mem_tb 1 (by decide +kernel) (by decide +kernel), by decide +kernel⟩, mem_tb 294 (by decide +kernel) (by decide +kernel)⟩
theorem yv_X6_look : yV yX6_look cX6_look 3 (some .int) 1 := ⟨⟨mem_tb 318 (by decide +kernel) (by decide +kernel), mem_tb 1 (by decide +kernel) (by decide +kernel), by decide +kernel⟩, mem_tb 316 (by decide +kernel) (by decide +kernel), mem_tb 317 (by decide +kernel) (by decide +kernel)⟩
theorem yv_X6_nobody : yV yX6_nobody cX6_nobody 3 (some .long) 2 := ⟨⟨mem_tb 547 (by decide +kernel) (by decide +kernel), mem_tb 1 (by decide +kernel) (by decide +kernel), by decide +kernel⟩, mem_tb 545 (by decide +kernel) (by decide +kernel), mem_tb 546 (by decide +kernel) (by decide +kernel)⟩
theorem yv_X6_owners : yV yX6_owners cX6_owners 2 (some .int) 1 := ⟨⟨mem_tb 566 (by decide +kernel) (by decide +kernel), mem_tb 1 (by decide +kernel) (by decide +kernel), by decide +kernel⟩, mem_tb 564 (by decide +kernel) (by decide +kernel), mem_tb 565 (by decide +kernel) (by decide +kernel)⟩
theorem yv_X6_ranked : yV yX6_ranked cX6_ranked 4 (some .int) 2 := ⟨⟨mem_tb 557 (by decide +kernel) (by decide +kernel), mem_tb 1 (by decide +kernel) (by decide +kernel), by decide +kernel⟩, mem_tb 555 (by decide +kernel) (by decide +kernel), mem_tb 556 (by decide +kernel) (by decide +kernel)⟩
theorem yv_X6_restore : yV yX6_restore cX6_restore 2 (some .int) 1 := ⟨⟨mem_tb 594 (by decide +kernel) (by decide +kernel), mem_tb 1 (by decide +kernel) (by decide +kernel), by decide +kernel⟩, mem_tb 592 (by decide +kernel) (by decide +kernel), mem_tb 593 (by decide +kernel) (by decide +kernel)⟩
theorem yv_X6_rule : yV yX6_rule cX6_rule 4 (some .int) 2 := ⟨⟨mem_tb 322 (by decide +kernel) (by decide +kernel), mem_tb 1 (by decide +kernel) (by decide +kernel), by decide +kernel⟩, mem_tb 320 (by decide +kernel) (by decide +kernel), mem_tb 321 (by decide +kernel) (by decide +kernel)⟩
theorem yv_X6_sell : yV yX6_sell cX6_sell 7 (some .int) 6 := ⟨⟨mem_tb 227 (by decide +kernel) (by decide +kernel), mem_tb 1 (by decide +kernel) (by decide +kernel), by decide +kernel⟩, mem_tb 226 (by decide +kernel) (by decide +kernel), mem_sl 0 (by decide +kernel) (by decide +kernel)⟩
theorem yv_X6_sellShares : yV yX6_sellShares cX6_sellShares 6 (some .int) 5 := ⟨⟨mem_tb 223 (by decide +kernel) (by decide +kernel), mem_tb 1 (by decide +kernel) (by decide +kernel), by decide +kernel⟩, mem_tb 221 (by decide +kernel) (by decide +kernel), mem_tb 222 (by decide +kernel) (by decide +kernel)⟩
theorem yv_X6_sellVotes : yV yX6_sellVotes cX6_sellVotes 6 (some .int) 5 := ⟨⟨mem_tb 285 (by decide +kernel) (by decide +kernel), mem_tb 1 (by decide +kernel) (by decide +kernel), by decide +kernel⟩, mem_tb 283 (by decide +kernel) (by decide +kernel), mem_tb 284 (by decide +kernel) (by decide +kernel)⟩
theorem yv_X6_stake : yV yX6_stake cX6_stake 5 (some .long) 3 := ⟨⟨mem_tb 524 (by decide +kernel) (by decide +kernel), mem_tb 1 (by decide +kernel) (by decide +kernel), by decide +kernel⟩, mem_tb 522 (by decide +kernel) (by decide +kernel), mem_tb 523 (by decide +kernel) (by decide +kernel)⟩
theorem yv_X6_told : yV yX6_told cX6_told 3 (some .int) 2 := ⟨⟨mem_tb 307 (by decide +kernel) (by decide +kernel), mem_tb 1 (by decide +kernel) (by decide +kernel), by decide +kernel⟩, mem_tb 305 (by decide +kernel) (by decide +kernel), mem_tb 306 (by decide +kernel) (by decide +kernel)⟩
theorem yv_X6_trace : yV yX6_trace cX6_trace 1 none 0 := ⟨⟨mem_tb 456 (by decide +kernel) (by decide +kernel), mem_tb 1 (by decide +kernel) (by decide +kernel), by decide +kernel⟩, mem_tb 455 (by decide +kernel) (by decide +kernel), mem_sl 16 (by decide +kernel) (by decide +kernel)⟩
theorem yv_X6_veto : yV yX6_veto cX6_veto 5 (some .int) 4 := ⟨⟨mem_tb 289 (by decide +kernel) (by decide +kernel), mem_tb 1 (by decide +kernel) (by decide +kernel), by decide +kernel⟩, mem_tb 287 (by decide +kernel) (by decide +kernel), mem_tb 288 (by decide +kernel) (by decide +kernel)⟩
theorem yv_X6_wayOfControl : yV yX6_wayOfControl cX6_wayOfControl 3 (some .int) 2 := ⟨⟨mem_tb 415 (by decide +kernel) (by decide +kernel), mem_tb 1 (by decide +kernel) (by decide +kernel), by decide +kernel⟩, mem_tb 414 (by decide +kernel) (by decide +kernel), mem_sl 13 (by decide +kernel) (by decide +kernel)⟩
theorem yv_X6_when : yV yX6_when cX6_when 4 (some .int) 3 := ⟨⟨mem_tb 452 (by decide +kernel) (by decide +kernel), mem_tb 1 (by decide +kernel) (by decide +kernel), by decide +kernel⟩, mem_tb 450 (by decide +kernel) (by decide +kernel), mem_tb 451 (by decide +kernel) (by decide +kernel)⟩
theorem yv_X6_wouldControl : yV yX6_wouldControl cX6_wouldControl 3 (some .boolean) 2 := ⟨⟨mem_tb 506 (by decide +kernel) (by decide +kernel), mem_tb 1 (by decide +kernel) (by decide +kernel), by decide +kernel⟩, mem_tb 505 (by decide +kernel) (by decide +kernel), mem_sl 22 (by decide +kernel) (by decide +kernel)⟩
theorem yv_X7_above : yV yX7_above cX7_above 6 (some .int) 2 := ⟨⟨mem_tb 813 (by decide +kernel) (by decide +kernel), mem_tb 8 (by decide +kernel) (by decide +kernel), by decide +kernel⟩, mem_tb 811 (by decide +kernel) (by decide +kernel), mem_tb 812 (by decide +kernel) (by decide +kernel)⟩
theorem yv_X7_add : yV yX7_add cX7_add 1 (some .int) 0 := ⟨⟨mem_tb 715 (by decide +kernel) (by decide +kernel), mem_tb 8 (by decide +kernel) (by decide +kernel), by decide +kernel⟩, mem_tb 714 (by decide +kernel) (by decide +kernel), mem_sl 27 (by decide +kernel) (by decide +kernel)⟩
theorem yv_X7_areKnown : yS yX7_areKnown cX7_areKnown 2 (some .boolean) 2 := ⟨⟨mem_tb 798 (by decide +kernel) (by decide +kernel), mem_tb 8 (by decide +kernel) (by decide +kernel), by decide +kernel⟩, mem_tb 797 (by decide +kernel) (by decide +kernel)⟩
theorem yv_X7_at : yS yX7_at cX7_at 2 (some .int) 2 := ⟨⟨mem_tb 734 (by decide +kernel) (by decide +kernel), mem_tb 8 (by decide +kernel) (by decide +kernel), by decide +kernel⟩, mem_tb 733 (by decide +kernel) (by decide +kernel)⟩
theorem yv_X7_begin : yV yX7_begin cX7_begin 2 none 0 := ⟨⟨mem_tb 723 (by decide +kernel) (by decide +kernel), mem_tb 8 (by decide +kernel) (by decide +kernel), by decide +kernel⟩, mem_tb 722 (by decide +kernel) (by decide +kernel), mem_sl 29 (by decide +kernel) (by decide +kernel)⟩
theorem yv_X7_block : yV yX7_block cX7_block 6 (some .int) 3 := ⟨⟨mem_tb 788 (by decide +kernel) (by decide +kernel), mem_tb 8 (by decide +kernel) (by decide +kernel), by decide +kernel⟩, mem_tb 787 (by decide +kernel) (by decide +kernel), mem_sl 35 (by decide +kernel) (by decide +kernel)⟩
theorem yv_X7_cancel : yV yX7_cancel cX7_cancel 3 (some .int) 1 := ⟨⟨mem_tb 749 (by decide +kernel) (by decide +kernel), mem_tb 8 (by decide +kernel) (by decide +kernel), by decide +kernel⟩, mem_tb 747 (by decide +kernel) (by decide +kernel), mem_tb 748 (by decide +kernel) (by decide +kernel)⟩
theorem yv_X7_chain : yV yX7_chain cX7_chain 6 (some .int) 2 := ⟨⟨mem_tb 809 (by decide +kernel) (by decide +kernel), mem_tb 8 (by decide +kernel) (by decide +kernel), by decide +kernel⟩, mem_tb 808 (by decide +kernel) (by decide +kernel), mem_sl 37 (by decide +kernel) (by decide +kernel)⟩
theorem yv_X7_circle : yV yX7_circle cX7_circle 5 (some .int) 1 := ⟨⟨mem_tb 886 (by decide +kernel) (by decide +kernel), mem_tb 8 (by decide +kernel) (by decide +kernel), by decide +kernel⟩, mem_tb 884 (by decide +kernel) (by decide +kernel), mem_tb 885 (by decide +kernel) (by decide +kernel)⟩
theorem yv_X7_control : yV yX7_control cX7_control 6 (some .int) 1 := ⟨⟨mem_tb 777 (by decide +kernel) (by decide +kernel), mem_tb 8 (by decide +kernel) (by decide +kernel), by decide +kernel⟩, mem_tb 776 (by decide +kernel) (by decide +kernel), mem_sl 33 (by decide +kernel) (by decide +kernel)⟩
theorem yv_X7_controls : yV yX7_controls cX7_controls 2 (some .int) 1 := ⟨⟨mem_tb 773 (by decide +kernel) (by decide +kernel), mem_tb 8 (by decide +kernel) (by decide +kernel), by decide +kernel⟩, mem_tb 771 (by decide +kernel) (by decide +kernel), mem_tb 772 (by decide +kernel) (by decide +kernel)⟩
theorem yv_X7_count : yV yX7_count cX7_count 2 (some .int) 1 := ⟨⟨mem_tb 898 (by decide +kernel) (by decide +kernel), mem_tb 8 (by decide +kernel) (by decide +kernel), by decide +kernel⟩, mem_tb 896 (by decide +kernel) (by decide +kernel), mem_tb 897 (by decide +kernel) (by decide +kernel)⟩
theorem yv_X7_dayBehind : yV yX7_dayBehind cX7_dayBehind 4 (some .int) 1 := ⟨⟨mem_tb 821 (by decide +kernel) (by decide +kernel), mem_tb 8 (by decide +kernel) (by decide +kernel), by decide +kernel⟩, mem_tb 820 (by decide +kernel) (by decide +kernel), mem_sl 38 (by decide +kernel) (by decide +kernel)⟩
theorem yv_X7_determinant : yV yX7_determinant cX7_determinant 12 (some .long) 0 := ⟨⟨mem_tb 856 (by decide +kernel) (by decide +kernel), mem_tb 8 (by decide +kernel) (by decide +kernel), by decide +kernel⟩, mem_tb 855 (by decide +kernel) (by decide +kernel), mem_sl 43 (by decide +kernel) (by decide +kernel)⟩
theorem yv_X7_does : yV yX7_does cX7_does 4 (some .boolean) 1 := ⟨⟨mem_tb 731 (by decide +kernel) (by decide +kernel), mem_tb 8 (by decide +kernel) (by decide +kernel), by decide +kernel⟩, mem_tb 730 (by decide +kernel) (by decide +kernel), mem_sl 31 (by decide +kernel) (by decide +kernel)⟩
theorem yv_X7_done : yV yX7_done cX7_done 3 (some .int) 0 := ⟨⟨mem_tb 902 (by decide +kernel) (by decide +kernel), mem_tb 8 (by decide +kernel) (by decide +kernel), by decide +kernel⟩, mem_tb 901 (by decide +kernel) (by decide +kernel), mem_sl 46 (by decide +kernel) (by decide +kernel)⟩
theorem yv_X7_event : yV yX7_event cX7_event 3 (some .int) 2 := ⟨⟨mem_tb 829 (by decide +kernel) (by decide +kernel), mem_tb 8 (by decide +kernel) (by decide +kernel), by decide +kernel⟩, mem_tb 827 (by decide +kernel) (by decide +kernel), mem_tb 828 (by decide +kernel) (by decide +kernel)⟩
theorem yv_X7_events : yV yX7_events cX7_events 8 (some .int) 1 := ⟨⟨mem_tb 833 (by decide +kernel) (by decide +kernel), mem_tb 8 (by decide +kernel) (by decide +kernel), by decide +kernel⟩, mem_tb 832 (by decide +kernel) (by decide +kernel), mem_sl 39 (by decide +kernel) (by decide +kernel)⟩
theorem yv_X7_falls : yV yX7_falls cX7_falls 8 (some .boolean) 3 := ⟨⟨mem_tb 784 (by decide +kernel) (by decide +kernel), mem_tb 8 (by decide +kernel) (by decide +kernel), by decide +kernel⟩, mem_tb 783 (by decide +kernel) (by decide +kernel), mem_sl 34 (by decide +kernel) (by decide +kernel)⟩
theorem yv_X7_fewest : yV yX7_fewest cX7_fewest 9 (some .int) 3 := ⟨⟨mem_tb 825 (by decide +kernel) (by decide +kernel), mem_tb 8 (by decide +kernel) (by decide +kernel), by decide +kernel⟩, mem_tb 823 (by decide +kernel) (by decide +kernel), mem_tb 824 (by decide +kernel) (by decide +kernel)⟩
theorem yv_X7_has : yS yX7_has cX7_has 2 (some .boolean) 2 := ⟨⟨mem_tb 780 (by decide +kernel) (by decide +kernel), mem_tb 8 (by decide +kernel) (by decide +kernel), by decide +kernel⟩, mem_tb 779 (by decide +kernel) (by decide +kernel)⟩
theorem yv_X7_holds : yV yX7_holds cX7_holds 5 (some .int) 3 := ⟨⟨mem_tb 769 (by decide +kernel) (by decide +kernel), mem_tb 8 (by decide +kernel) (by decide +kernel), by decide +kernel⟩, mem_tb 767 (by decide +kernel) (by decide +kernel), mem_tb 768 (by decide +kernel) (by decide +kernel)⟩
theorem yv_X7_how : yV yX7_how cX7_how 6 (some .int) 3 := ⟨⟨mem_tb 795 (by decide +kernel) (by decide +kernel), mem_tb 8 (by decide +kernel) (by decide +kernel), by decide +kernel⟩, mem_tb 793 (by decide +kernel) (by decide +kernel), mem_tb 794 (by decide +kernel) (by decide +kernel)⟩
theorem yv_X7_image : yV yX7_image cX7_image 4 (some .int) 1 := ⟨⟨mem_tb 890 (by decide +kernel) (by decide +kernel), mem_tb 8 (by decide +kernel) (by decide +kernel), by decide +kernel⟩, mem_tb 888 (by decide +kernel) (by decide +kernel), mem_tb 889 (by decide +kernel) (by decide +kernel)⟩
theorem yv_X7_in : yS yX7_in cX7_in 3 (some .boolean) 3 := ⟨⟨mem_tb 704 (by decide +kernel) (by decide +kernel), mem_tb 8 (by decide +kernel) (by decide +kernel), by decide +kernel⟩, mem_tb 703 (by decide +kernel) (by decide +kernel)⟩
theorem yv_X7_isDeal : yV yX7_isDeal cX7_isDeal 2 (some .boolean) 1 := ⟨⟨mem_tb 753 (by decide +kernel) (by decide +kernel), mem_tb 8 (by decide +kernel) (by decide +kernel), by decide +kernel⟩, mem_tb 752 (by decide +kernel) (by decide +kernel), mem_sl 32 (by decide +kernel) (by decide +kernel)⟩
theorem yv_X7_isFirm : yS yX7_isFirm cX7_isFirm 1 (some .boolean) 1 := ⟨⟨mem_tb 707 (by decide +kernel) (by decide +kernel), mem_tb 8 (by decide +kernel) (by decide +kernel), by decide +kernel⟩, mem_tb 706 (by decide +kernel) (by decide +kernel)⟩
theorem yv_X7_isOne : yS yX7_isOne cX7_isOne 1 (some .boolean) 1 := ⟨⟨mem_tb 745 (by decide +kernel) (by decide +kernel), mem_tb 8 (by decide +kernel) (by decide +kernel), by decide +kernel⟩, mem_tb 744 (by decide +kernel) (by decide +kernel)⟩
theorem yv_X7_isWith : yS yX7_isWith cX7_isWith 3 (some .boolean) 3 := ⟨⟨mem_tb 791 (by decide +kernel) (by decide +kernel), mem_tb 8 (by decide +kernel) (by decide +kernel), by decide +kernel⟩, mem_tb 790 (by decide +kernel) (by decide +kernel)⟩
theorem yv_X7_lay : yV yX7_lay cX7_lay 5 (some .boolean) 2 := ⟨⟨mem_tb 719 (by decide +kernel) (by decide +kernel), mem_tb 8 (by decide +kernel) (by decide +kernel), by decide +kernel⟩, mem_tb 718 (by decide +kernel) (by decide +kernel), mem_sl 28 (by decide +kernel) (by decide +kernel)⟩
theorem yv_X7_layRows : yV yX7_layRows cX7_layRows 4 none 0 := ⟨⟨mem_tb 847 (by decide +kernel) (by decide +kernel), mem_tb 8 (by decide +kernel) (by decide +kernel), by decide +kernel⟩, mem_tb 846 (by decide +kernel) (by decide +kernel), mem_sl 41 (by decide +kernel) (by decide +kernel)⟩
theorem yv_X7_layUppers : yV yX7_layUppers cX7_layUppers 3 none 1 := ⟨⟨mem_tb 878 (by decide +kernel) (by decide +kernel), mem_tb 8 (by decide +kernel) (by decide +kernel), by decide +kernel⟩, mem_tb 877 (by decide +kernel) (by decide +kernel), mem_sl 45 (by decide +kernel) (by decide +kernel)⟩
theorem yv_X7_locked : yV yX7_locked cX7_locked 7 (some .int) 0 := ⟨⟨mem_tb 851 (by decide +kernel) (by decide +kernel), mem_tb 8 (by decide +kernel) (by decide +kernel), by decide +kernel⟩, mem_tb 850 (by decide +kernel) (by decide +kernel), mem_sl 42 (by decide +kernel) (by decide +kernel)⟩
theorem yv_X7_look : yV yX7_look cX7_look 3 (some .int) 1 := ⟨⟨mem_tb 761 (by decide +kernel) (by decide +kernel), mem_tb 8 (by decide +kernel) (by decide +kernel), by decide +kernel⟩, mem_tb 759 (by decide +kernel) (by decide +kernel), mem_tb 760 (by decide +kernel) (by decide +kernel)⟩
theorem yv_X7_lower : yV yX7_lower cX7_lower 1 (some .long) 0 := ⟨⟨mem_tb 863 (by decide +kernel) (by decide +kernel), mem_tb 8 (by decide +kernel) (by decide +kernel), by decide +kernel⟩, mem_tb 862 (by decide +kernel) (by decide +kernel), mem_sl 44 (by decide +kernel) (by decide +kernel)⟩
theorem yv_X7_many : yS yX7_many cX7_many 3 (some .int) 1 := ⟨⟨mem_tb 805 (by decide +kernel) (by decide +kernel), mem_tb 8 (by decide +kernel) (by decide +kernel), by decide +kernel⟩, mem_tb 804 (by decide +kernel) (by decide +kernel)⟩
theorem yv_X7_mostRounds : yV yX7_mostRounds cX7_mostRounds 3 (some .int) 0 := ⟨⟨mem_tb 906 (by decide +kernel) (by decide +kernel), mem_tb 8 (by decide +kernel) (by decide +kernel), by decide +kernel⟩, mem_tb 905 (by decide +kernel) (by decide +kernel), mem_sl 47 (by decide +kernel) (by decide +kernel)⟩
theorem yv_X7_nobody : yV yX7_nobody cX7_nobody 6 (some .long) 2 := ⟨⟨mem_tb 870 (by decide +kernel) (by decide +kernel), mem_tb 8 (by decide +kernel) (by decide +kernel), by decide +kernel⟩, mem_tb 868 (by decide +kernel) (by decide +kernel), mem_tb 869 (by decide +kernel) (by decide +kernel)⟩
theorem yv_X7_over : yS yX7_over cX7_over 2 (some .int) 2 := ⟨⟨mem_tb 859 (by decide +kernel) (by decide +kernel), mem_tb 8 (by decide +kernel) (by decide +kernel), by decide +kernel⟩, mem_tb 858 (by decide +kernel) (by decide +kernel)⟩
theorem yv_X7_owners : yV yX7_owners cX7_owners 6 (some .int) 1 := ⟨⟨mem_tb 882 (by decide +kernel) (by decide +kernel), mem_tb 8 (by decide +kernel) (by decide +kernel), by decide +kernel⟩, mem_tb 880 (by decide +kernel) (by decide +kernel), mem_tb 881 (by decide +kernel) (by decide +kernel)⟩
theorem yv_X7_part : yS yX7_part cX7_part 12 (some .long) 3 := ⟨⟨mem_tb 866 (by decide +kernel) (by decide +kernel), mem_tb 8 (by decide +kernel) (by decide +kernel), by decide +kernel⟩, mem_tb 865 (by decide +kernel) (by decide +kernel)⟩
theorem yv_X7_placeOf : yV yX7_placeOf cX7_placeOf 4 (some .int) 1 := ⟨⟨mem_tb 727 (by decide +kernel) (by decide +kernel), mem_tb 8 (by decide +kernel) (by decide +kernel), by decide +kernel⟩, mem_tb 726 (by decide +kernel) (by decide +kernel), mem_sl 30 (by decide +kernel) (by decide +kernel)⟩
theorem yv_X7_put : yV yX7_put cX7_put 8 none 7 := ⟨⟨mem_tb 711 (by decide +kernel) (by decide +kernel), mem_tb 8 (by decide +kernel) (by decide +kernel), by decide +kernel⟩, mem_tb 710 (by decide +kernel) (by decide +kernel), mem_sl 26 (by decide +kernel) (by decide +kernel)⟩
theorem yv_X7_ranked : yV yX7_ranked cX7_ranked 7 (some .int) 2 := ⟨⟨mem_tb 874 (by decide +kernel) (by decide +kernel), mem_tb 8 (by decide +kernel) (by decide +kernel), by decide +kernel⟩, mem_tb 872 (by decide +kernel) (by decide +kernel), mem_tb 873 (by decide +kernel) (by decide +kernel)⟩
theorem yv_X7_restore : yV yX7_restore cX7_restore 5 (some .int) 1 := ⟨⟨mem_tb 894 (by decide +kernel) (by decide +kernel), mem_tb 8 (by decide +kernel) (by decide +kernel), by decide +kernel⟩, mem_tb 892 (by decide +kernel) (by decide +kernel), mem_tb 893 (by decide +kernel) (by decide +kernel)⟩
theorem yv_X7_rule : yV yX7_rule cX7_rule 4 (some .int) 2 := ⟨⟨mem_tb 765 (by decide +kernel) (by decide +kernel), mem_tb 8 (by decide +kernel) (by decide +kernel), by decide +kernel⟩, mem_tb 763 (by decide +kernel) (by decide +kernel), mem_tb 764 (by decide +kernel) (by decide +kernel)⟩
theorem yv_X7_sell : yV yX7_sell cX7_sell 7 (some .int) 6 := ⟨⟨mem_tb 701 (by decide +kernel) (by decide +kernel), mem_tb 8 (by decide +kernel) (by decide +kernel), by decide +kernel⟩, mem_tb 700 (by decide +kernel) (by decide +kernel), mem_sl 25 (by decide +kernel) (by decide +kernel)⟩
theorem yv_X7_sellShares : yV yX7_sellShares cX7_sellShares 6 (some .int) 5 := ⟨⟨mem_tb 697 (by decide +kernel) (by decide +kernel), mem_tb 8 (by decide +kernel) (by decide +kernel), by decide +kernel⟩, mem_tb 695 (by decide +kernel) (by decide +kernel), mem_tb 696 (by decide +kernel) (by decide +kernel)⟩
theorem yv_X7_sellVotes : yV yX7_sellVotes cX7_sellVotes 6 (some .int) 5 := ⟨⟨mem_tb 738 (by decide +kernel) (by decide +kernel), mem_tb 8 (by decide +kernel) (by decide +kernel), by decide +kernel⟩, mem_tb 736 (by decide +kernel) (by decide +kernel), mem_tb 737 (by decide +kernel) (by decide +kernel)⟩
theorem yv_X7_stake : yV yX7_stake cX7_stake 4 (some .long) 3 := ⟨⟨mem_tb 837 (by decide +kernel) (by decide +kernel), mem_tb 8 (by decide +kernel) (by decide +kernel), by decide +kernel⟩, mem_tb 835 (by decide +kernel) (by decide +kernel), mem_tb 836 (by decide +kernel) (by decide +kernel)⟩
theorem yv_X7_told : yV yX7_told cX7_told 3 (some .int) 2 := ⟨⟨mem_tb 757 (by decide +kernel) (by decide +kernel), mem_tb 8 (by decide +kernel) (by decide +kernel), by decide +kernel⟩, mem_tb 755 (by decide +kernel) (by decide +kernel), mem_tb 756 (by decide +kernel) (by decide +kernel)⟩
theorem yv_X7_unlikeDay : yV yX7_unlikeDay cX7_unlikeDay 4 (some .int) 1 := ⟨⟨mem_tb 910 (by decide +kernel) (by decide +kernel), mem_tb 8 (by decide +kernel) (by decide +kernel), by decide +kernel⟩, mem_tb 909 (by decide +kernel) (by decide +kernel), mem_sl 48 (by decide +kernel) (by decide +kernel)⟩
theorem yv_X7_upper : yV yX7_upper cX7_upper 5 (some .long) 2 := ⟨⟨mem_tb 843 (by decide +kernel) (by decide +kernel), mem_tb 8 (by decide +kernel) (by decide +kernel), by decide +kernel⟩, mem_tb 842 (by decide +kernel) (by decide +kernel), mem_sl 40 (by decide +kernel) (by decide +kernel)⟩
theorem yv_X7_veto : yV yX7_veto cX7_veto 5 (some .int) 4 := ⟨⟨mem_tb 742 (by decide +kernel) (by decide +kernel), mem_tb 8 (by decide +kernel) (by decide +kernel), by decide +kernel⟩, mem_tb 740 (by decide +kernel) (by decide +kernel), mem_tb 741 (by decide +kernel) (by decide +kernel)⟩
theorem yv_X7_when : yV yX7_when cX7_when 6 (some .int) 3 := ⟨⟨mem_tb 817 (by decide +kernel) (by decide +kernel), mem_tb 8 (by decide +kernel) (by decide +kernel), by decide +kernel⟩, mem_tb 815 (by decide +kernel) (by decide +kernel), mem_tb 816 (by decide +kernel) (by decide +kernel)⟩
theorem yv_X7_witness : yV yX7_witness cX7_witness 6 (some .int) 2 := ⟨⟨mem_tb 802 (by decide +kernel) (by decide +kernel), mem_tb 8 (by decide +kernel) (by decide +kernel), by decide +kernel⟩, mem_tb 801 (by decide +kernel) (by decide +kernel), mem_sl 36 (by decide +kernel) (by decide +kernel)⟩
