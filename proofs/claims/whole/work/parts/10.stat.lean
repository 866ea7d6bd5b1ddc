/-! the objects that stand for good; names of what they hold -/
def statOb : Nat → Nat × Nat := fun k => match k with
  | 0 => (10, 10)
  | 1 => (51, 1400)
  | 2 => (9, 3)
  | 3 => (50, 1401)
  | 4 => (50, 1401)
  | 5 => (53, 1401)
  | 6 => (6, 10)
  | 7 => (53, 17)
  | 8 => (50, 17)
  | 9 => (50, 17)
  | 10 => (50, 17)
  | 11 => (50, 6)
  | 12 => (50, 17)
  | 13 => (50, 17)
  | 14 => (52, 17)
  | 15 => (50, 17)
  | 16 => (50, 17)
  | 17 => (2, 5)
  | 18 => (50, 2)
  | 19 => (50, 2)
  | 20 => (50, 41)
  | 21 => (50, 1)
  | 22 => (50, 1)
  | 23 => (8, 5)
  | 24 => (50, 60)
  | 25 => (50, 60)
  | 26 => (50, 60)
  | 27 => (50, 60)
  | 28 => (50, 60)
  | 29 => (8, 5)
  | 30 => (50, 100)
  | 31 => (50, 100)
  | 32 => (50, 100)
  | 33 => (50, 100)
  | 34 => (50, 100)
  | 35 => (3, 4)
  | 36 => (50, 8)
  | 37 => (50, 8)
  | 38 => (50, 8)
  | 39 => (50, 8)
  | 40 => (4, 3)
  | 41 => (50, 10)
  | 42 => (50, 10)
  | 43 => (54, 8)
  | 44 => (0, 5)
  | 45 => (50, 20)
  | 46 => (50, 20)
  | 47 => (50, 60)
  | 48 => (50, 10)
  | 49 => (50, 7)
  | 50 => (1, 12)
  | 51 => (50, 4800)
  | 52 => (50, 4800)
  | 53 => (50, 3360)
  | 54 => (50, 17)
  | 55 => (50, 17)
  | 56 => (50, 4800)
  | 57 => (50, 10)
  | 58 => (50, 10)
  | 59 => (50, 17)
  | 60 => (50, 17)
  | 61 => (7, 6)
  | 62 => (50, 20)
  | 63 => (50, 100)
  | 64 => (50, 7)
  | 65 => (50, 7)
  | 66 => (50, 2)
  | 67 => (50, 2)
  | 68 => (11, 72)
  | 69 => (50, 1400)
  | 70 => (53, 13)
  | 71 => (50, 13)
  | 72 => (50, 13)
  | 73 => (50, 13)
  | 74 => (50, 13)
  | 75 => (50, 13)
  | 76 => (50, 13)
  | 77 => (50, 13)
  | 78 => (50, 13)
  | 79 => (50, 13)
  | 80 => (50, 13)
  | 81 => (50, 13)
  | 82 => (50, 13)
  | 83 => (52, 6)
  | 84 => (52, 6)
  | 85 => (50, 600)
  | 86 => (50, 600)
  | 87 => (50, 2)
  | 88 => (50, 2)
  | 89 => (50, 600)
  | 90 => (50, 600)
  | 91 => (50, 2)
  | 92 => (50, 2)
  | 93 => (52, 2)
  | 94 => (52, 2)
  | 95 => (50, 300)
  | 96 => (50, 60)
  | 97 => (50, 60)
  | 98 => (50, 60)
  | 99 => (50, 60)
  | 100 => (50, 60)
  | 101 => (50, 8)
  | 102 => (50, 8)
  | 103 => (50, 60)
  | 104 => (50, 6266)
  | 105 => (52, 104)
  | 106 => (50, 10)
  | 107 => (50, 8)
  | 108 => (50, 100)
  | 109 => (50, 100)
  | 110 => (50, 100)
  | 111 => (50, 100)
  | 112 => (50, 100)
  | 113 => (50, 601)
  | 114 => (50, 602)
  | 115 => (52, 6010)
  | 116 => (52, 6010)
  | 117 => (52, 6010)
  | 118 => (50, 20)
  | 119 => (50, 20)
  | 120 => (50, 60)
  | 121 => (50, 10)
  | 122 => (50, 10)
  | 123 => (50, 7)
  | 124 => (50, 10)
  | 125 => (50, 6)
  | 126 => (50, 5410)
  | 127 => (50, 7)
  | 128 => (50, 13)
  | 129 => (50, 6)
  | 130 => (50, 4800)
  | 131 => (50, 4800)
  | 132 => (50, 3360)
  | 133 => (50, 100)
  | 134 => (50, 8)
  | 135 => (50, 8)
  | 136 => (50, 8)
  | 137 => (50, 8)
  | 138 => (50, 8)
  | 139 => (50, 7)
  | 140 => (50, 8)
  | _ => (0, 0)
/-- the objects that stand for good are there -/
def Stat (σ : pS) : Prop := ∀ k : Nat, k < 141 → ob σ (k : Int) = some (statOb k)
theorem Stat.wr {σ : pS} {a i v : Int} (h : Stat σ) : Stat (wr σ a i v) := h
theorem statFull : ∀ k : Nat, k < 141 → pFull (statOb k) = true := by decide +kernel
theorem Stat.le {σ τ : pS} (h : Stat σ) (e : pLe σ τ) : Stat τ := fun k hk => e.2.2.1 _ _ (h k hk) (statFull k hk)
theorem ob_0 {σ : pS} (h : Stat σ) : ob σ 0 = some (10, 10) := h 0 (by decide)
theorem ob_1 {σ : pS} (h : Stat σ) : ob σ 1 = some (51, 1400) := h 1 (by decide)
theorem ob_2 {σ : pS} (h : Stat σ) : ob σ 2 = some (9, 3) := h 2 (by decide)
theorem ob_3 {σ : pS} (h : Stat σ) : ob σ 3 = some (50, 1401) := h 3 (by decide)
theorem ob_4 {σ : pS} (h : Stat σ) : ob σ 4 = some (50, 1401) := h 4 (by decide)
theorem ob_5 {σ : pS} (h : Stat σ) : ob σ 5 = some (53, 1401) := h 5 (by decide)
theorem ob_6 {σ : pS} (h : Stat σ) : ob σ 6 = some (6, 10) := h 6 (by decide)
theorem ob_7 {σ : pS} (h : Stat σ) : ob σ 7 = some (53, 17) := h 7 (by decide)
theorem ob_8 {σ : pS} (h : Stat σ) : ob σ 8 = some (50, 17) := h 8 (by decide)
theorem ob_9 {σ : pS} (h : Stat σ) : ob σ 9 = some (50, 17) := h 9 (by decide)
theorem ob_10 {σ : pS} (h : Stat σ) : ob σ 10 = some (50, 17) := h 10 (by decide)
theorem ob_11 {σ : pS} (h : Stat σ) : ob σ 11 = some (50, 6) := h 11 (by decide)
theorem ob_12 {σ : pS} (h : Stat σ) : ob σ 12 = some (50, 17) := h 12 (by decide)
theorem ob_13 {σ : pS} (h : Stat σ) : ob σ 13 = some (50, 17) := h 13 (by decide)
theorem ob_14 {σ : pS} (h : Stat σ) : ob σ 14 = some (52, 17) := h 14 (by decide)
theorem ob_15 {σ : pS} (h : Stat σ) : ob σ 15 = some (50, 17) := h 15 (by decide)
theorem ob_16 {σ : pS} (h : Stat σ) : ob σ 16 = some (50, 17) := h 16 (by decide)
theorem ob_17 {σ : pS} (h : Stat σ) : ob σ 17 = some (2, 5) := h 17 (by decide)
theorem ob_18 {σ : pS} (h : Stat σ) : ob σ 18 = some (50, 2) := h 18 (by decide)
theorem ob_19 {σ : pS} (h : Stat σ) : ob σ 19 = some (50, 2) := h 19 (by decide)
theorem ob_20 {σ : pS} (h : Stat σ) : ob σ 20 = some (50, 41) := h 20 (by decide)
theorem ob_21 {σ : pS} (h : Stat σ) : ob σ 21 = some (50, 1) := h 21 (by decide)
theorem ob_22 {σ : pS} (h : Stat σ) : ob σ 22 = some (50, 1) := h 22 (by decide)
theorem ob_23 {σ : pS} (h : Stat σ) : ob σ 23 = some (8, 5) := h 23 (by decide)
theorem ob_24 {σ : pS} (h : Stat σ) : ob σ 24 = some (50, 60) := h 24 (by decide)
theorem ob_25 {σ : pS} (h : Stat σ) : ob σ 25 = some (50, 60) := h 25 (by decide)
theorem ob_26 {σ : pS} (h : Stat σ) : ob σ 26 = some (50, 60) := h 26 (by decide)
theorem ob_27 {σ : pS} (h : Stat σ) : ob σ 27 = some (50, 60) := h 27 (by decide)
theorem ob_28 {σ : pS} (h : Stat σ) : ob σ 28 = some (50, 60) := h 28 (by decide)
theorem ob_29 {σ : pS} (h : Stat σ) : ob σ 29 = some (8, 5) := h 29 (by decide)
theorem ob_30 {σ : pS} (h : Stat σ) : ob σ 30 = some (50, 100) := h 30 (by decide)
theorem ob_31 {σ : pS} (h : Stat σ) : ob σ 31 = some (50, 100) := h 31 (by decide)
theorem ob_32 {σ : pS} (h : Stat σ) : ob σ 32 = some (50, 100) := h 32 (by decide)
theorem ob_33 {σ : pS} (h : Stat σ) : ob σ 33 = some (50, 100) := h 33 (by decide)
theorem ob_34 {σ : pS} (h : Stat σ) : ob σ 34 = some (50, 100) := h 34 (by decide)
theorem ob_35 {σ : pS} (h : Stat σ) : ob σ 35 = some (3, 4) := h 35 (by decide)
theorem ob_36 {σ : pS} (h : Stat σ) : ob σ 36 = some (50, 8) := h 36 (by decide)
theorem ob_37 {σ : pS} (h : Stat σ) : ob σ 37 = some (50, 8) := h 37 (by decide)
theorem ob_38 {σ : pS} (h : Stat σ) : ob σ 38 = some (50, 8) := h 38 (by decide)
theorem ob_39 {σ : pS} (h : Stat σ) : ob σ 39 = some (50, 8) := h 39 (by decide)
theorem ob_40 {σ : pS} (h : Stat σ) : ob σ 40 = some (4, 3) := h 40 (by decide)
theorem ob_41 {σ : pS} (h : Stat σ) : ob σ 41 = some (50, 10) := h 41 (by decide)
theorem ob_42 {σ : pS} (h : Stat σ) : ob σ 42 = some (50, 10) := h 42 (by decide)
theorem ob_43 {σ : pS} (h : Stat σ) : ob σ 43 = some (54, 8) := h 43 (by decide)
theorem ob_44 {σ : pS} (h : Stat σ) : ob σ 44 = some (0, 5) := h 44 (by decide)
theorem ob_45 {σ : pS} (h : Stat σ) : ob σ 45 = some (50, 20) := h 45 (by decide)
theorem ob_46 {σ : pS} (h : Stat σ) : ob σ 46 = some (50, 20) := h 46 (by decide)
theorem ob_47 {σ : pS} (h : Stat σ) : ob σ 47 = some (50, 60) := h 47 (by decide)
theorem ob_48 {σ : pS} (h : Stat σ) : ob σ 48 = some (50, 10) := h 48 (by decide)
theorem ob_49 {σ : pS} (h : Stat σ) : ob σ 49 = some (50, 7) := h 49 (by decide)
theorem ob_50 {σ : pS} (h : Stat σ) : ob σ 50 = some (1, 12) := h 50 (by decide)
theorem ob_51 {σ : pS} (h : Stat σ) : ob σ 51 = some (50, 4800) := h 51 (by decide)
theorem ob_52 {σ : pS} (h : Stat σ) : ob σ 52 = some (50, 4800) := h 52 (by decide)
theorem ob_53 {σ : pS} (h : Stat σ) : ob σ 53 = some (50, 3360) := h 53 (by decide)
theorem ob_54 {σ : pS} (h : Stat σ) : ob σ 54 = some (50, 17) := h 54 (by decide)
theorem ob_55 {σ : pS} (h : Stat σ) : ob σ 55 = some (50, 17) := h 55 (by decide)
theorem ob_56 {σ : pS} (h : Stat σ) : ob σ 56 = some (50, 4800) := h 56 (by decide)
theorem ob_57 {σ : pS} (h : Stat σ) : ob σ 57 = some (50, 10) := h 57 (by decide)
theorem ob_58 {σ : pS} (h : Stat σ) : ob σ 58 = some (50, 10) := h 58 (by decide)
theorem ob_59 {σ : pS} (h : Stat σ) : ob σ 59 = some (50, 17) := h 59 (by decide)
theorem ob_60 {σ : pS} (h : Stat σ) : ob σ 60 = some (50, 17) := h 60 (by decide)
theorem ob_61 {σ : pS} (h : Stat σ) : ob σ 61 = some (7, 6) := h 61 (by decide)
theorem ob_62 {σ : pS} (h : Stat σ) : ob σ 62 = some (50, 20) := h 62 (by decide)
theorem ob_63 {σ : pS} (h : Stat σ) : ob σ 63 = some (50, 100) := h 63 (by decide)
theorem ob_64 {σ : pS} (h : Stat σ) : ob σ 64 = some (50, 7) := h 64 (by decide)
theorem ob_65 {σ : pS} (h : Stat σ) : ob σ 65 = some (50, 7) := h 65 (by decide)
theorem ob_66 {σ : pS} (h : Stat σ) : ob σ 66 = some (50, 2) := h 66 (by decide)
theorem ob_67 {σ : pS} (h : Stat σ) : ob σ 67 = some (50, 2) := h 67 (by decide)
theorem ob_68 {σ : pS} (h : Stat σ) : ob σ 68 = some (11, 72) := h 68 (by decide)
theorem ob_69 {σ : pS} (h : Stat σ) : ob σ 69 = some (50, 1400) := h 69 (by decide)
theorem ob_70 {σ : pS} (h : Stat σ) : ob σ 70 = some (53, 13) := h 70 (by decide)
theorem ob_71 {σ : pS} (h : Stat σ) : ob σ 71 = some (50, 13) := h 71 (by decide)
theorem ob_72 {σ : pS} (h : Stat σ) : ob σ 72 = some (50, 13) := h 72 (by decide)
theorem ob_73 {σ : pS} (h : Stat σ) : ob σ 73 = some (50, 13) := h 73 (by decide)
theorem ob_74 {σ : pS} (h : Stat σ) : ob σ 74 = some (50, 13) := h 74 (by decide)
theorem ob_75 {σ : pS} (h : Stat σ) : ob σ 75 = some (50, 13) := h 75 (by decide)
theorem ob_76 {σ : pS} (h : Stat σ) : ob σ 76 = some (50, 13) := h 76 (by decide)
theorem ob_77 {σ : pS} (h : Stat σ) : ob σ 77 = some (50, 13) := h 77 (by decide)
theorem ob_78 {σ : pS} (h : Stat σ) : ob σ 78 = some (50, 13) := h 78 (by decide)
theorem ob_79 {σ : pS} (h : Stat σ) : ob σ 79 = some (50, 13) := h 79 (by decide)
theorem ob_80 {σ : pS} (h : Stat σ) : ob σ 80 = some (50, 13) := h 80 (by decide)
theorem ob_81 {σ : pS} (h : Stat σ) : ob σ 81 = some (50, 13) := h 81 (by decide)
theorem ob_82 {σ : pS} (h : Stat σ) : ob σ 82 = some (50, 13) := h 82 (by decide)
theorem ob_83 {σ : pS} (h : Stat σ) : ob σ 83 = some (52, 6) := h 83 (by decide)
theorem ob_84 {σ : pS} (h : Stat σ) : ob σ 84 = some (52, 6) := h 84 (by decide)
theorem ob_85 {σ : pS} (h : Stat σ) : ob σ 85 = some (50, 600) := h 85 (by decide)
theorem ob_86 {σ : pS} (h : Stat σ) : ob σ 86 = some (50, 600) := h 86 (by decide)
theorem ob_87 {σ : pS} (h : Stat σ) : ob σ 87 = some (50, 2) := h 87 (by decide)
theorem ob_88 {σ : pS} (h : Stat σ) : ob σ 88 = some (50, 2) := h 88 (by decide)
theorem ob_89 {σ : pS} (h : Stat σ) : ob σ 89 = some (50, 600) := h 89 (by decide)
theorem ob_90 {σ : pS} (h : Stat σ) : ob σ 90 = some (50, 600) := h 90 (by decide)
theorem ob_91 {σ : pS} (h : Stat σ) : ob σ 91 = some (50, 2) := h 91 (by decide)
theorem ob_92 {σ : pS} (h : Stat σ) : ob σ 92 = some (50, 2) := h 92 (by decide)
theorem ob_93 {σ : pS} (h : Stat σ) : ob σ 93 = some (52, 2) := h 93 (by decide)
theorem ob_94 {σ : pS} (h : Stat σ) : ob σ 94 = some (52, 2) := h 94 (by decide)
theorem ob_95 {σ : pS} (h : Stat σ) : ob σ 95 = some (50, 300) := h 95 (by decide)
theorem ob_96 {σ : pS} (h : Stat σ) : ob σ 96 = some (50, 60) := h 96 (by decide)
theorem ob_97 {σ : pS} (h : Stat σ) : ob σ 97 = some (50, 60) := h 97 (by decide)
theorem ob_98 {σ : pS} (h : Stat σ) : ob σ 98 = some (50, 60) := h 98 (by decide)
theorem ob_99 {σ : pS} (h : Stat σ) : ob σ 99 = some (50, 60) := h 99 (by decide)
theorem ob_100 {σ : pS} (h : Stat σ) : ob σ 100 = some (50, 60) := h 100 (by decide)
theorem ob_101 {σ : pS} (h : Stat σ) : ob σ 101 = some (50, 8) := h 101 (by decide)
theorem ob_102 {σ : pS} (h : Stat σ) : ob σ 102 = some (50, 8) := h 102 (by decide)
theorem ob_103 {σ : pS} (h : Stat σ) : ob σ 103 = some (50, 60) := h 103 (by decide)
theorem ob_104 {σ : pS} (h : Stat σ) : ob σ 104 = some (50, 6266) := h 104 (by decide)
theorem ob_105 {σ : pS} (h : Stat σ) : ob σ 105 = some (52, 104) := h 105 (by decide)
theorem ob_106 {σ : pS} (h : Stat σ) : ob σ 106 = some (50, 10) := h 106 (by decide)
theorem ob_107 {σ : pS} (h : Stat σ) : ob σ 107 = some (50, 8) := h 107 (by decide)
theorem ob_108 {σ : pS} (h : Stat σ) : ob σ 108 = some (50, 100) := h 108 (by decide)
theorem ob_109 {σ : pS} (h : Stat σ) : ob σ 109 = some (50, 100) := h 109 (by decide)
theorem ob_110 {σ : pS} (h : Stat σ) : ob σ 110 = some (50, 100) := h 110 (by decide)
theorem ob_111 {σ : pS} (h : Stat σ) : ob σ 111 = some (50, 100) := h 111 (by decide)
theorem ob_112 {σ : pS} (h : Stat σ) : ob σ 112 = some (50, 100) := h 112 (by decide)
theorem ob_113 {σ : pS} (h : Stat σ) : ob σ 113 = some (50, 601) := h 113 (by decide)
theorem ob_114 {σ : pS} (h : Stat σ) : ob σ 114 = some (50, 602) := h 114 (by decide)
theorem ob_115 {σ : pS} (h : Stat σ) : ob σ 115 = some (52, 6010) := h 115 (by decide)
theorem ob_116 {σ : pS} (h : Stat σ) : ob σ 116 = some (52, 6010) := h 116 (by decide)
theorem ob_117 {σ : pS} (h : Stat σ) : ob σ 117 = some (52, 6010) := h 117 (by decide)
theorem ob_118 {σ : pS} (h : Stat σ) : ob σ 118 = some (50, 20) := h 118 (by decide)
theorem ob_119 {σ : pS} (h : Stat σ) : ob σ 119 = some (50, 20) := h 119 (by decide)
theorem ob_120 {σ : pS} (h : Stat σ) : ob σ 120 = some (50, 60) := h 120 (by decide)
theorem ob_121 {σ : pS} (h : Stat σ) : ob σ 121 = some (50, 10) := h 121 (by decide)
theorem ob_122 {σ : pS} (h : Stat σ) : ob σ 122 = some (50, 10) := h 122 (by decide)
theorem ob_123 {σ : pS} (h : Stat σ) : ob σ 123 = some (50, 7) := h 123 (by decide)
theorem ob_124 {σ : pS} (h : Stat σ) : ob σ 124 = some (50, 10) := h 124 (by decide)
theorem ob_125 {σ : pS} (h : Stat σ) : ob σ 125 = some (50, 6) := h 125 (by decide)
theorem ob_126 {σ : pS} (h : Stat σ) : ob σ 126 = some (50, 5410) := h 126 (by decide)
theorem ob_127 {σ : pS} (h : Stat σ) : ob σ 127 = some (50, 7) := h 127 (by decide)
theorem ob_128 {σ : pS} (h : Stat σ) : ob σ 128 = some (50, 13) := h 128 (by decide)
theorem ob_129 {σ : pS} (h : Stat σ) : ob σ 129 = some (50, 6) := h 129 (by decide)
theorem ob_130 {σ : pS} (h : Stat σ) : ob σ 130 = some (50, 4800) := h 130 (by decide)
theorem ob_131 {σ : pS} (h : Stat σ) : ob σ 131 = some (50, 4800) := h 131 (by decide)
theorem ob_132 {σ : pS} (h : Stat σ) : ob σ 132 = some (50, 3360) := h 132 (by decide)
theorem ob_133 {σ : pS} (h : Stat σ) : ob σ 133 = some (50, 100) := h 133 (by decide)
theorem ob_134 {σ : pS} (h : Stat σ) : ob σ 134 = some (50, 8) := h 134 (by decide)
theorem ob_135 {σ : pS} (h : Stat σ) : ob σ 135 = some (50, 8) := h 135 (by decide)
theorem ob_136 {σ : pS} (h : Stat σ) : ob σ 136 = some (50, 8) := h 136 (by decide)
theorem ob_137 {σ : pS} (h : Stat σ) : ob σ 137 = some (50, 8) := h 137 (by decide)
theorem ob_138 {σ : pS} (h : Stat σ) : ob σ 138 = some (50, 8) := h 138 (by decide)
theorem ob_139 {σ : pS} (h : Stat σ) : ob σ 139 = some (50, 7) := h 139 (by decide)
theorem ob_140 {σ : pS} (h : Stat σ) : ob σ 140 = some (50, 8) := h 140 (by decide)
def Inst2 (σ : pS) (a : Int) (n : Nat) : Prop := ob σ a = some (2, 5) ∧ ob σ (a + 1) = some (50, 2) ∧ ob σ (a + 2) = some (50, 2) ∧ ob σ (a + 3) = some (50, 41) ∧ ob σ (a + 4) = some (50, n) ∧ ob σ (a + 5) = some (50, n)
theorem Inst2.wr {σ : pS} {a b i v : Int} {n : Nat} (h : Inst2 σ a n) : Inst2 (wr σ b i v) a n := h
theorem Inst2.le {σ τ : pS} {a : Int} {n : Nat} (h : Inst2 σ a n) (e : pLe σ τ) : Inst2 τ a n := ⟨e.2.2.1 _ _ h.1 rfl, e.2.2.1 _ _ h.2.1 rfl, e.2.2.1 _ _ h.2.2.1 rfl, e.2.2.1 _ _ h.2.2.2.1 rfl, e.2.2.1 _ _ h.2.2.2.2.1 rfl, e.2.2.1 _ _ h.2.2.2.2.2 rfl⟩
theorem Inst2.o0 {σ : pS} {a : Int} {n : Nat} (h : Inst2 σ a n) : ob σ a = some (2, 5) := h.1
theorem Inst2.o1 {σ : pS} {a : Int} {n : Nat} (h : Inst2 σ a n) : ob σ (a + 1) = some (50, 2) := h.2.1
theorem Inst2.o2 {σ : pS} {a : Int} {n : Nat} (h : Inst2 σ a n) : ob σ (a + 2) = some (50, 2) := h.2.2.1
theorem Inst2.o3 {σ : pS} {a : Int} {n : Nat} (h : Inst2 σ a n) : ob σ (a + 3) = some (50, 41) := h.2.2.2.1
theorem Inst2.o4 {σ : pS} {a : Int} {n : Nat} (h : Inst2 σ a n) : ob σ (a + 4) = some (50, n) := h.2.2.2.2.1
theorem Inst2.o5 {σ : pS} {a : Int} {n : Nat} (h : Inst2 σ a n) : ob σ (a + 5) = some (50, n) := h.2.2.2.2.2
theorem Inst2.pos {σ : pS} {a : Int} {n : Nat} (h : Inst2 σ a n) : 0 ≤ a := (ob_some h.1).1
def Inst5 (σ : pS) (a : Int) : Prop := ob σ a = some (5, 5) ∧ ob σ (a + 1) = some (50, 480) ∧ ob σ (a + 2) = some (50, 480) ∧ ob σ (a + 3) = some (50, 541) ∧ ob σ (a + 4) = some (50, 541) ∧ ob σ (a + 5) = some (50, 17)
theorem Inst5.wr {σ : pS} {a b i v : Int} (h : Inst5 σ a) : Inst5 (wr σ b i v) a := h
theorem Inst5.le {σ τ : pS} {a : Int} (h : Inst5 σ a) (e : pLe σ τ) : Inst5 τ a := ⟨e.2.2.1 _ _ h.1 rfl, e.2.2.1 _ _ h.2.1 rfl, e.2.2.1 _ _ h.2.2.1 rfl, e.2.2.1 _ _ h.2.2.2.1 rfl, e.2.2.1 _ _ h.2.2.2.2.1 rfl, e.2.2.1 _ _ h.2.2.2.2.2 rfl⟩
theorem Inst5.o0 {σ : pS} {a : Int} (h : Inst5 σ a) : ob σ a = some (5, 5) := h.1
theorem Inst5.o1 {σ : pS} {a : Int} (h : Inst5 σ a) : ob σ (a + 1) = some (50, 480) := h.2.1
theorem Inst5.o2 {σ : pS} {a : Int} (h : Inst5 σ a) : ob σ (a + 2) = some (50, 480) := h.2.2.1
theorem Inst5.o3 {σ : pS} {a : Int} (h : Inst5 σ a) : ob σ (a + 3) = some (50, 541) := h.2.2.2.1
theorem Inst5.o4 {σ : pS} {a : Int} (h : Inst5 σ a) : ob σ (a + 4) = some (50, 541) := h.2.2.2.2.1
theorem Inst5.o5 {σ : pS} {a : Int} (h : Inst5 σ a) : ob σ (a + 5) = some (50, 17) := h.2.2.2.2.2
theorem Inst5.pos {σ : pS} {a : Int} (h : Inst5 σ a) : 0 ≤ a := (ob_some h.1).1
def Inst6 (σ : pS) (a : Int) : Prop := ob σ a = some (6, 10) ∧ ob σ (a + 1) = some (53, 17) ∧ ob σ (a + 2) = some (50, 17) ∧ ob σ (a + 3) = some (50, 17) ∧ ob σ (a + 4) = some (50, 17) ∧ ob σ (a + 5) = some (50, 6) ∧ ob σ (a + 6) = some (50, 17) ∧ ob σ (a + 7) = some (50, 17) ∧ ob σ (a + 8) = some (52, 17) ∧ ob σ (a + 9) = some (50, 17) ∧ ob σ (a + 10) = some (50, 17)
theorem Inst6.wr {σ : pS} {a b i v : Int} (h : Inst6 σ a) : Inst6 (wr σ b i v) a := h
theorem Inst6.le {σ τ : pS} {a : Int} (h : Inst6 σ a) (e : pLe σ τ) : Inst6 τ a := ⟨e.2.2.1 _ _ h.1 rfl, e.2.2.1 _ _ h.2.1 rfl, e.2.2.1 _ _ h.2.2.1 rfl, e.2.2.1 _ _ h.2.2.2.1 rfl, e.2.2.1 _ _ h.2.2.2.2.1 rfl, e.2.2.1 _ _ h.2.2.2.2.2.1 rfl, e.2.2.1 _ _ h.2.2.2.2.2.2.1 rfl, e.2.2.1 _ _ h.2.2.2.2.2.2.2.1 rfl, e.2.2.1 _ _ h.2.2.2.2.2.2.2.2.1 rfl, e.2.2.1 _ _ h.2.2.2.2.2.2.2.2.2.1 rfl, e.2.2.1 _ _ h.2.2.2.2.2.2.2.2.2.2 rfl⟩
theorem Inst6.o0 {σ : pS} {a : Int} (h : Inst6 σ a) : ob σ a = some (6, 10) := h.1
theorem Inst6.o1 {σ : pS} {a : Int} (h : Inst6 σ a) : ob σ (a + 1) = some (53, 17) := h.2.1
theorem Inst6.o2 {σ : pS} {a : Int} (h : Inst6 σ a) : ob σ (a + 2) = some (50, 17) := h.2.2.1
theorem Inst6.o3 {σ : pS} {a : Int} (h : Inst6 σ a) : ob σ (a + 3) = some (50, 17) := h.2.2.2.1
theorem Inst6.o4 {σ : pS} {a : Int} (h : Inst6 σ a) : ob σ (a + 4) = some (50, 17) := h.2.2.2.2.1
theorem Inst6.o5 {σ : pS} {a : Int} (h : Inst6 σ a) : ob σ (a + 5) = some (50, 6) := h.2.2.2.2.2.1
theorem Inst6.o6 {σ : pS} {a : Int} (h : Inst6 σ a) : ob σ (a + 6) = some (50, 17) := h.2.2.2.2.2.2.1
theorem Inst6.o7 {σ : pS} {a : Int} (h : Inst6 σ a) : ob σ (a + 7) = some (50, 17) := h.2.2.2.2.2.2.2.1
theorem Inst6.o8 {σ : pS} {a : Int} (h : Inst6 σ a) : ob σ (a + 8) = some (52, 17) := h.2.2.2.2.2.2.2.2.1
theorem Inst6.o9 {σ : pS} {a : Int} (h : Inst6 σ a) : ob σ (a + 9) = some (50, 17) := h.2.2.2.2.2.2.2.2.2.1
theorem Inst6.o10 {σ : pS} {a : Int} (h : Inst6 σ a) : ob σ (a + 10) = some (50, 17) := h.2.2.2.2.2.2.2.2.2.2
theorem Inst6.pos {σ : pS} {a : Int} (h : Inst6 σ a) : 0 ≤ a := (ob_some h.1).1
def Inst8 (σ : pS) (a : Int) (n : Nat) : Prop := ob σ a = some (8, 5) ∧ ob σ (a + 1) = some (50, n) ∧ ob σ (a + 2) = some (50, n) ∧ ob σ (a + 3) = some (50, n) ∧ ob σ (a + 4) = some (50, n) ∧ ob σ (a + 5) = some (50, n)
theorem Inst8.wr {σ : pS} {a b i v : Int} {n : Nat} (h : Inst8 σ a n) : Inst8 (wr σ b i v) a n := h
theorem Inst8.le {σ τ : pS} {a : Int} {n : Nat} (h : Inst8 σ a n) (e : pLe σ τ) : Inst8 τ a n := ⟨e.2.2.1 _ _ h.1 rfl, e.2.2.1 _ _ h.2.1 rfl, e.2.2.1 _ _ h.2.2.1 rfl, e.2.2.1 _ _ h.2.2.2.1 rfl, e.2.2.1 _ _ h.2.2.2.2.1 rfl, e.2.2.1 _ _ h.2.2.2.2.2 rfl⟩
theorem Inst8.o0 {σ : pS} {a : Int} {n : Nat} (h : Inst8 σ a n) : ob σ a = some (8, 5) := h.1
theorem Inst8.o1 {σ : pS} {a : Int} {n : Nat} (h : Inst8 σ a n) : ob σ (a + 1) = some (50, n) := h.2.1
theorem Inst8.o2 {σ : pS} {a : Int} {n : Nat} (h : Inst8 σ a n) : ob σ (a + 2) = some (50, n) := h.2.2.1
theorem Inst8.o3 {σ : pS} {a : Int} {n : Nat} (h : Inst8 σ a n) : ob σ (a + 3) = some (50, n) := h.2.2.2.1
theorem Inst8.o4 {σ : pS} {a : Int} {n : Nat} (h : Inst8 σ a n) : ob σ (a + 4) = some (50, n) := h.2.2.2.2.1
theorem Inst8.o5 {σ : pS} {a : Int} {n : Nat} (h : Inst8 σ a n) : ob σ (a + 5) = some (50, n) := h.2.2.2.2.2
theorem Inst8.pos {σ : pS} {a : Int} {n : Nat} (h : Inst8 σ a n) : 0 ≤ a := (ob_some h.1).1
abbrev fC_arrivalMinutes (σ : pS) (i : Int) : Int := rd σ 45 i
abbrev fC_arrivalSizes (σ : pS) (i : Int) : Int := rd σ 46 i
abbrev fC_arrivals (σ : pS) : Int := rd σ 44 2
abbrev fC_turns (σ : pS) (i : Int) : Int := rd σ 47 i
abbrev fC_turnCounts (σ : pS) (i : Int) : Int := rd σ 48 i
abbrev fC_makers (σ : pS) (i : Int) : Int := rd σ 49 i
abbrev fD_wasRun (σ : pS) : Int := rd σ 50 2
abbrev fD_undecidedThen (σ : pS) (i : Int) : Int := rd σ 51 i
abbrev fD_queuedThen (σ : pS) (i : Int) : Int := rd σ 52 i
abbrev fD_snowThen (σ : pS) (i : Int) : Int := rd σ 53 i
abbrev fD_taken (σ : pS) (i : Int) : Int := rd σ 54 i
abbrev fD_longest (σ : pS) (i : Int) : Int := rd σ 55 i
abbrev fD_coming (σ : pS) (i : Int) : Int := rd σ 56 i
abbrev fD_undecided (σ : pS) (i : Int) : Int := rd σ 57 i
abbrev fD_nextTurn (σ : pS) (i : Int) : Int := rd σ 58 i
abbrev fD_queued (σ : pS) (i : Int) : Int := rd σ 59 i
abbrev fD_snow (σ : pS) (i : Int) : Int := rd σ 60 i
abbrev fL_ops (σ : pS) (a i : Int) : Int := rd σ (a + 4) i
abbrev fL_numbers (σ : pS) (a i : Int) : Int := rd σ (a + 5) i
abbrev fL_length (σ : pS) (a : Int) : Int := rd σ a 2
abbrev fL_units (σ : pS) (a : Int) : Int := rd σ a 3
abbrev fL_lines (σ : pS) (a : Int) : Int := rd σ a 4
abbrev fL_ofRuns (σ : pS) (a : Int) : Int := rd σ a 5
abbrev fL_first (σ : pS) (a i : Int) : Int := rd σ (a + 1) i
abbrev fL_behind (σ : pS) (a i : Int) : Int := rd σ (a + 2) i
abbrev fL_stack (σ : pS) (a i : Int) : Int := rd σ (a + 3) i
abbrev fO_wind (σ : pS) (i : Int) : Int := rd σ 36 i
abbrev fO_fresh (σ : pS) (i : Int) : Int := rd σ 37 i
abbrev fO_fallen (σ : pS) (i : Int) : Int := rd σ 38 i
abbrev fO_shut (σ : pS) (i : Int) : Int := rd σ 39 i
abbrev fO_slopes (σ : pS) : Int := rd σ 35 4
abbrev fO_changes (σ : pS) : Int := rd σ 35 5
abbrev fO_known (σ : pS) : Int := rd σ 35 6
abbrev fR_earliest (σ : pS) (i : Int) : Int := rd σ 41 i
abbrev fR_latest (σ : pS) (i : Int) : Int := rd σ 42 i
abbrev fK_skill (σ : pS) (a : Int) : Int := rd σ a 0
abbrev fK_passAt (σ : pS) (a i : Int) : Int := rd σ (a + 1) i
abbrev fK_beginnings (σ : pS) (a i : Int) : Int := rd σ (a + 2) i
abbrev fK_reached (σ : pS) (a i : Int) : Int := rd σ (a + 3) i
abbrev fK_goesOn (σ : pS) (a i : Int) : Int := rd σ (a + 4) i
abbrev fK_minutes (σ : pS) (a i : Int) : Int := rd σ (a + 5) i
abbrev fK_slopes (σ : pS) (a : Int) : Int := rd σ a 6
abbrev fK_changes (σ : pS) (a : Int) : Int := rd σ a 7
abbrev fK_known (σ : pS) (a : Int) : Int := rd σ a 8
abbrev fS_lifts (σ : pS) (a : Int) : Int := rd σ a 0
abbrev fS_runs (σ : pS) (a : Int) : Int := rd σ a 1
abbrev fS_lines (σ : pS) (a : Int) : Int := rd σ a 2
abbrev fS_home (σ : pS) (a : Int) : Int := rd σ a 3
abbrev fS_homeTold (σ : pS) (a : Int) : Int := rd σ a 4
abbrev fS_names (σ : pS) (a i : Int) : Int := rd σ (a + 1) i
abbrev fS_starts (σ : pS) (a i : Int) : Int := rd σ (a + 2) i
abbrev fS_ends (σ : pS) (a i : Int) : Int := rd σ (a + 3) i
abbrev fS_takes (σ : pS) (a i : Int) : Int := rd σ (a + 4) i
abbrev fS_seats (σ : pS) (a i : Int) : Int := rd σ (a + 5) i
abbrev fS_dutyFrom (σ : pS) (a i : Int) : Int := rd σ (a + 6) i
abbrev fS_dutyTo (σ : pS) (a i : Int) : Int := rd σ (a + 7) i
abbrev fS_gate (σ : pS) (a i : Int) : Int := rd σ (a + 8) i
abbrev fS_grade (σ : pS) (a i : Int) : Int := rd σ (a + 9) i
abbrev fS_snow (σ : pS) (a i : Int) : Int := rd σ (a + 10) i
abbrev fZ_answers (σ : pS) (i : Int) : Int := rd σ 62 i
abbrev fZ_between (σ : pS) (i : Int) : Int := rd σ 63 i
abbrev fZ_above (σ : pS) (i : Int) : Int := rd σ 64 i
abbrev fZ_sweptAt (σ : pS) (i : Int) : Int := rd σ 65 i
abbrev fZ_stands (σ : pS) (i : Int) : Int := rd σ 66 i
abbrev fZ_free (σ : pS) (i : Int) : Int := rd σ 67 i
abbrev fZ_slopes (σ : pS) : Int := rd σ 61 6
abbrev fZ_patrollers (σ : pS) : Int := rd σ 61 7
abbrev fZ_best (σ : pS) : Int := rd σ 61 8
abbrev fW_told (σ : pS) (a i : Int) : Int := rd σ (a + 1) i
abbrev fW_untold (σ : pS) (a i : Int) : Int := rd σ (a + 2) i
abbrev fW_firsts (σ : pS) (a i : Int) : Int := rd σ (a + 3) i
abbrev fW_seconds (σ : pS) (a i : Int) : Int := rd σ (a + 4) i
abbrev fW_thirds (σ : pS) (a i : Int) : Int := rd σ (a + 5) i
abbrev fW_count (σ : pS) (a : Int) : Int := rd σ a 5
abbrev fT_kinds (σ : pS) (i : Int) : Int := rd σ 3 i
abbrev fT_places (σ : pS) (i : Int) : Int := rd σ 4 i
abbrev fT_values (σ : pS) (i : Int) : Int := rd σ 5 i
abbrev fT_count (σ : pS) : Int := rd σ 2 3
abbrev fT_at (σ : pS) : Int := rd σ 2 4
abbrev fT_fault (σ : pS) : Int := rd σ 2 5
abbrev fT_faultPlace (σ : pS) : Int := rd σ 2 6
abbrev fX_tape (σ : pS) (i : Int) : Int := rd σ 1 i
abbrev fX_taped (σ : pS) : Int := rd σ 0 1
abbrev fX_faultKind (σ : pS) : Int := rd σ 0 3
abbrev fX_faultPlace (σ : pS) : Int := rd σ 0 4
abbrev fX_time (σ : pS) : Int := rd σ 0 5
abbrev fX_changes (σ : pS) : Int := rd σ 0 6
abbrev fX_slopes (σ : pS) : Int := rd σ 0 7
abbrev fX_rules (σ : pS) : Int := rd σ 0 8
abbrev fX_skiers (σ : pS) (i : Int) : Int := rd σ 43 i
abbrev fX_skierCount (σ : pS) : Int := rd σ 0 14
abbrev fM_tape (σ : pS) (i : Int) : Int := rd σ 69 i
abbrev fM_taped (σ : pS) : Int := rd σ 68 1
abbrev fM_fault (σ : pS) : Int := rd σ 68 2
abbrev fM_faultPlace (σ : pS) : Int := rd σ 68 3
abbrev fM_at (σ : pS) : Int := rd σ 68 4
abbrev fM_size (σ : pS) : Int := rd σ 68 5
abbrev fM_sort (σ : pS) : Int := rd σ 68 6
abbrev fM_place (σ : pS) : Int := rd σ 68 7
abbrev fM_number (σ : pS) : Int := rd σ 68 8
abbrev fM_word (σ : pS) : Int := rd σ 68 9
abbrev fM_nNames (σ : pS) (i : Int) : Int := rd σ 70 i
abbrev fM_nFrom (σ : pS) (i : Int) : Int := rd σ 71 i
abbrev fM_nTo (σ : pS) (i : Int) : Int := rd σ 72 i
abbrev fM_nTakes (σ : pS) (i : Int) : Int := rd σ 73 i
abbrev fM_nOne (σ : pS) (i : Int) : Int := rd σ 74 i
abbrev fM_nTwo (σ : pS) (i : Int) : Int := rd σ 75 i
abbrev fM_nThree (σ : pS) (i : Int) : Int := rd σ 76 i
abbrev fM_nLifts (σ : pS) : Int := rd σ 68 17
abbrev fM_nRuns (σ : pS) : Int := rd σ 68 18
abbrev fM_nHome (σ : pS) : Int := rd σ 68 19
abbrev fM_nLines (σ : pS) : Int := rd σ 68 20
abbrev fM_hasHome (σ : pS) : Int := rd σ 68 21
abbrev fM_from (σ : pS) (i : Int) : Int := rd σ 77 i
abbrev fM_to (σ : pS) (i : Int) : Int := rd σ 78 i
abbrev fM_takes (σ : pS) (i : Int) : Int := rd σ 79 i
abbrev fM_seats (σ : pS) (i : Int) : Int := rd σ 80 i
abbrev fM_on (σ : pS) (i : Int) : Int := rd σ 81 i
abbrev fM_off (σ : pS) (i : Int) : Int := rd σ 82 i
abbrev fM_nGate (σ : pS) (i : Int) : Int := rd σ 83 i
abbrev fM_hasGate (σ : pS) (i : Int) : Int := rd σ 84 i
abbrev fM_lifts (σ : pS) : Int := rd σ 68 30
abbrev fM_runs (σ : pS) : Int := rd σ 68 31
abbrev fM_home (σ : pS) : Int := rd σ 68 32
abbrev fM_lines (σ : pS) : Int := rd σ 68 33
abbrev fM_nSteps (σ : pS) (i : Int) : Int := rd σ 85 i
abbrev fM_nNumbers (σ : pS) (i : Int) : Int := rd σ 86 i
abbrev fM_nBegin (σ : pS) (i : Int) : Int := rd σ 87 i
abbrev fM_nEnd (σ : pS) (i : Int) : Int := rd σ 88 i
abbrev fM_steps (σ : pS) (i : Int) : Int := rd σ 89 i
abbrev fM_numbers (σ : pS) (i : Int) : Int := rd σ 90 i
abbrev fM_begins (σ : pS) (i : Int) : Int := rd σ 91 i
abbrev fM_ends (σ : pS) (i : Int) : Int := rd σ 92 i
abbrev fM_nHas (σ : pS) (i : Int) : Int := rd σ 93 i
abbrev fM_has (σ : pS) (i : Int) : Int := rd σ 94 i
abbrev fM_nStepMany (σ : pS) : Int := rd σ 68 44
abbrev fM_units (σ : pS) : Int := rd σ 68 45
abbrev fM_lawLines (σ : pS) : Int := rd σ 68 46
abbrev fM_waits (σ : pS) (i : Int) : Int := rd σ 95 i
abbrev fM_waiting (σ : pS) : Int := rd σ 68 48
abbrev fM_deep (σ : pS) : Int := rd σ 68 49
abbrev fM_ofRuns (σ : pS) : Int := rd σ 68 50
abbrev fM_tellings (σ : pS) : Int := rd σ 68 51
abbrev fM_time (σ : pS) : Int := rd σ 68 52
abbrev fM_tHour (σ : pS) (i : Int) : Int := rd σ 96 i
abbrev fM_tWind (σ : pS) (i : Int) : Int := rd σ 97 i
abbrev fM_tFresh (σ : pS) (i : Int) : Int := rd σ 98 i
abbrev fM_tTold (σ : pS) (i : Int) : Int := rd σ 99 i
abbrev fM_tUntold (σ : pS) (i : Int) : Int := rd σ 100 i
abbrev fM_winds (σ : pS) (i : Int) : Int := rd σ 101 i
abbrev fM_freshes (σ : pS) (i : Int) : Int := rd σ 102 i
abbrev fM_pile (σ : pS) (i : Int) : Int := rd σ 103 i
abbrev fM_opens (σ : pS) (i : Int) : Int := rd σ 104 i
abbrev fM_shut (σ : pS) (i : Int) : Int := rd σ 105 i
abbrev fM_soon (σ : pS) (i : Int) : Int := rd σ 106 i
abbrev fM_skiers (σ : pS) : Int := rd σ 68 64
abbrev fM_passes (σ : pS) : Int := rd σ 68 65
abbrev fM_skills (σ : pS) (i : Int) : Int := rd σ 107 i
abbrev fM_pSkier (σ : pS) (i : Int) : Int := rd σ 108 i
abbrev fM_pLift (σ : pS) (i : Int) : Int := rd σ 109 i
abbrev fM_pMinute (σ : pS) (i : Int) : Int := rd σ 110 i
abbrev fM_pTold (σ : pS) (i : Int) : Int := rd σ 111 i
abbrev fM_pUntold (σ : pS) (i : Int) : Int := rd σ 112 i
abbrev fM_passAt (σ : pS) (i : Int) : Int := rd σ 113 i
abbrev fM_nextPass (σ : pS) (i : Int) : Int := rd σ 114 i
abbrev fM_came (σ : pS) (i : Int) : Int := rd σ 115 i
abbrev fM_goes (σ : pS) (i : Int) : Int := rd σ 116 i
abbrev fM_both (σ : pS) (i : Int) : Int := rd σ 117 i
abbrev fM_arrivals (σ : pS) : Int := rd σ 68 77
abbrev fM_hasDay (σ : pS) : Int := rd σ 68 78
abbrev fM_aMinute (σ : pS) (i : Int) : Int := rd σ 118 i
abbrev fM_aMany (σ : pS) (i : Int) : Int := rd σ 119 i
abbrev fM_turns (σ : pS) (i : Int) : Int := rd σ 120 i
abbrev fM_turnMany (σ : pS) (i : Int) : Int := rd σ 121 i
abbrev fM_turnAt (σ : pS) (i : Int) : Int := rd σ 122 i
abbrev fM_makers (σ : pS) (i : Int) : Int := rd σ 123 i
abbrev fM_undecided (σ : pS) (i : Int) : Int := rd σ 124 i
abbrev fM_queues (σ : pS) (i : Int) : Int := rd σ 125 i
abbrev fM_comes (σ : pS) (i : Int) : Int := rd σ 126 i
abbrev fM_snows (σ : pS) (i : Int) : Int := rd σ 127 i
abbrev fM_taken (σ : pS) (i : Int) : Int := rd σ 128 i
abbrev fM_longest (σ : pS) (i : Int) : Int := rd σ 129 i
abbrev fM_waitLog (σ : pS) (i : Int) : Int := rd σ 130 i
abbrev fM_queueLog (σ : pS) (i : Int) : Int := rd σ 131 i
abbrev fM_snowLog (σ : pS) (i : Int) : Int := rd σ 132 i
abbrev fM_far (σ : pS) (i : Int) : Int := rd σ 133 i
abbrev fM_at0 (σ : pS) (i : Int) : Int := rd σ 134 i
abbrev fM_at1 (σ : pS) (i : Int) : Int := rd σ 135 i
abbrev fM_free0 (σ : pS) (i : Int) : Int := rd σ 136 i
abbrev fM_free1 (σ : pS) (i : Int) : Int := rd σ 137 i
abbrev fM_pick (σ : pS) (i : Int) : Int := rd σ 138 i
abbrev fM_doneAt (σ : pS) (i : Int) : Int := rd σ 139 i
abbrev fM_order (σ : pS) (i : Int) : Int := rd σ 140 i
def b2i (b : Bool) : Int := if b then 1 else 0
theorem b2i_t : b2i true = 1 := rfl
theorem b2i_f : b2i false = 0 := rfl
theorem b2i_01 (b : Bool) : b2i b = 0 ∨ b2i b = 1 := by cases b <;> simp [b2i]
theorem b2i_R (b : Bool) : inR (b2i b) := by cases b <;> decide
theorem l_cmp_R (x y : Int) : inR (l_cmp x y) := by unfold l_cmp; repeat' split <;> omega
theorem pRok_z {r : Option pV} (h : pRok (some .boolean) r) : ∃ v, r = some (0, v) ∧ (v = 0 ∨ v = 1) := by
  rcases h with h | h
  · exact ⟨0, h, Or.inl rfl⟩
  · exact ⟨1, h, Or.inr rfl⟩
theorem pRok_b2i (b : Bool) : pRok (some .boolean) (some (0, b2i b)) := by cases b; exact Or.inl rfl; exact Or.inr rfl
theorem pRok_01 {v : Int} (h : v = 0 ∨ v = 1) : pRok (some .boolean) (some (0, v)) := by rcases h with rfl | rfl; exact Or.inl rfl; exact Or.inr rfl
theorem bnd {i : Int} {N : Nat} (h : 0 ≤ i ∧ i < (N : Int)) (hN : N < 2147483648 := by decide) : 0 ≤ i ∧ i < (N : Int) ∧ i < 2147483648 := by omega
def pargsB (M : pM) (As : List pV) : Bool := As.all (fun v => v.1 != 9) && decide ((pspread As).length ≤ M.2.2.1)
theorem pargs_of {M : pM} {As : List pV} (h : pargsB M As = true) : pargs M As := by
  simp only [pargsB, Bool.and_eq_true, List.all_eq_true, bne_iff_ne, ne_eq, decide_eq_true_eq] at h
  exact h
theorem pGoE {M : pM} {d pc : Nat} {ls st : List pV} {σ : pS} {pc1 t : Nat} {ls1 st1 : List pV} {σ1 : pS} {x y : Int} {Q : Option pV → pS → Prop} (h : pStep M d pc ls st σ pc1 ls1 ((t, x) :: st1) σ1) (e : x = y) (k : pR M d pc1 ls1 ((t, y) :: st1) σ1 Q) : pR M d pc ls st σ Q := by subst e; exact pGo h k
theorem pGoL {M : pM} {d pc : Nat} {ls st : List pV} {σ : pS} {pc1 : Nat} {ls1 ls2 st1 : List pV} {σ1 : pS} {Q : Option pV → pS → Prop} (h : pStep M d pc ls st σ pc1 ls1 st1 σ1) (e : ls1 = ls2) (k : pR M d pc1 ls2 st1 σ1 Q) : pR M d pc ls st σ Q := by subst e; exact pGo h k
section PB
variable {M : pM} {d pc : Nat} {ls st : List pV} {σ : pS} {Q : Option pV → pS → Prop} {b : Bool} {off : Int} {tgt : Nat}
theorem p_ifeqB (hd : decode M.2.1 pc = .ok (.ifCond .eq off, 3)) (ht : (pc : Int) + off = (tgt : Int)) (kt : b = false → pR M d tgt ls st σ Q) (kf : b = true → pR M d (pc + 3) ls st σ Q) : pR M d pc ls ((0, b2i b) :: st) σ Q :=
  p_ifeq hd ht (b2i_R b) (fun h => kt (by cases b; rfl; exact absurd h (by decide))) (fun h => kf (by cases b; exact absurd rfl h; rfl))
theorem p_ifneB (hd : decode M.2.1 pc = .ok (.ifCond .ne off, 3)) (ht : (pc : Int) + off = (tgt : Int)) (kt : b = true → pR M d tgt ls st σ Q) (kf : b = false → pR M d (pc + 3) ls st σ Q) : pR M d pc ls ((0, b2i b) :: st) σ Q :=
  p_ifne hd ht (b2i_R b) (fun h => kt (by cases b; exact absurd rfl h; rfl)) (fun h => kf (by cases b; rfl; exact absurd h (by decide)))
end PB
