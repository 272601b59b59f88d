theorem wd_666 : (Jvm.Cond.methodLink "ConfigTextsModel" (1 : Nat) ({ cls := "java/lang/Object", name := "<init>", desc := "()V" } : Jvm.MethodName)) ∈ xT := xT_of 666 (by decide +kernel) (by decide +kernel)
theorem wd_667 : (Jvm.Cond.constantLong "ConfigTextsModel" (7 : Nat) (56342190987770 : Int64)) ∈ xT := xT_of 667 (by decide +kernel) (by decide +kernel)
theorem wd_668 : (Jvm.Cond.constantLong "ConfigTextsModel" (9 : Nat) (911521961 : Int64)) ∈ xT := xT_of 668 (by decide +kernel) (by decide +kernel)
theorem wd_669 : (Jvm.Cond.constantLong "ConfigTextsModel" (11 : Nat) (42328085711 : Int64)) ∈ xT := xT_of 669 (by decide +kernel) (by decide +kernel)
theorem wd_670 : (Jvm.Cond.constantLong "ConfigTextsModel" (13 : Nat) (10108018 : Int64)) ∈ xT := xT_of 670 (by decide +kernel) (by decide +kernel)
theorem wd_671 : (Jvm.Cond.constantLong "ConfigTextsModel" (15 : Nat) (1565746242358 : Int64)) ∈ xT := xT_of 671 (by decide +kernel) (by decide +kernel)
theorem wd_672 : (Jvm.Cond.constantLong "ConfigTextsModel" (17 : Nat) (1119798751 : Int64)) ∈ xT := xT_of 672 (by decide +kernel) (by decide +kernel)
theorem wd_673 : (Jvm.Cond.constantLong "ConfigTextsModel" (19 : Nat) (392633601858 : Int64)) ∈ xT := xT_of 673 (by decide +kernel) (by decide +kernel)
theorem wd_674 : (Jvm.Cond.constantLong "ConfigTextsModel" (21 : Nat) (20621612726 : Int64)) ∈ xT := xT_of 674 (by decide +kernel) (by decide +kernel)
theorem wd_675 : (Jvm.Cond.constantLong "ConfigTextsModel" (23 : Nat) (50164625867 : Int64)) ∈ xT := xT_of 675 (by decide +kernel) (by decide +kernel)
theorem wd_676 : (Jvm.Cond.constantLong "ConfigTextsModel" (25 : Nat) (67245223210444 : Int64)) ∈ xT := xT_of 676 (by decide +kernel) (by decide +kernel)
theorem wd_677 : (Jvm.Cond.constantLong "ConfigTextsModel" (27 : Nat) (10492554 : Int64)) ∈ xT := xT_of 677 (by decide +kernel) (by decide +kernel)
theorem wd_678 : (Jvm.Cond.constantLong "ConfigTextsModel" (29 : Nat) (178357630 : Int64)) ∈ xT := xT_of 678 (by decide +kernel) (by decide +kernel)
theorem wd_679 : (Jvm.Cond.constantLong "ConfigTextsModel" (31 : Nat) (4510156 : Int64)) ∈ xT := xT_of 679 (by decide +kernel) (by decide +kernel)
theorem wd_680 : (Jvm.Cond.constantLong "ConfigTextsModel" (33 : Nat) (831669 : Int64)) ∈ xT := xT_of 680 (by decide +kernel) (by decide +kernel)
theorem wd_681 : (Jvm.Cond.constantLong "ConfigTextsModel" (35 : Nat) (347 : Int64)) ∈ xT := xT_of 681 (by decide +kernel) (by decide +kernel)
theorem wd_682 : (Jvm.Cond.constantLong "ConfigTextsModel" (37 : Nat) (21332 : Int64)) ∈ xT := xT_of 682 (by decide +kernel) (by decide +kernel)
theorem wd_683 : (Jvm.Cond.constantLong "ConfigTextsModel" (39 : Nat) (381387657 : Int64)) ∈ xT := xT_of 683 (by decide +kernel) (by decide +kernel)
theorem wd_684 : (Jvm.Cond.constantLong "ConfigTextsModel" (41 : Nat) (8254533549 : Int64)) ∈ xT := xT_of 684 (by decide +kernel) (by decide +kernel)
theorem wd_685 : (Jvm.Cond.constantLong "ConfigTextsModel" (43 : Nat) (1807203470635 : Int64)) ∈ xT := xT_of 685 (by decide +kernel) (by decide +kernel)
theorem wd_686 : (Jvm.Cond.constantLong "ConfigTextsModel" (45 : Nat) (45084019414 : Int64)) ∈ xT := xT_of 686 (by decide +kernel) (by decide +kernel)
theorem wd_687 : (Jvm.Cond.constantLong "ConfigTextsModel" (47 : Nat) (17599292 : Int64)) ∈ xT := xT_of 687 (by decide +kernel) (by decide +kernel)
theorem wd_688 : (Jvm.Cond.constantLong "ConfigTextsModel" (49 : Nat) (1080552497 : Int64)) ∈ xT := xT_of 688 (by decide +kernel) (by decide +kernel)
theorem wd_689 : (Jvm.Cond.constantLong "ConfigTextsModel" (51 : Nat) (12158575 : Int64)) ∈ xT := xT_of 689 (by decide +kernel) (by decide +kernel)
theorem wd_690 : (Jvm.Cond.constantLong "ConfigTextsModel" (59 : Nat) (23946417994 : Int64)) ∈ xT := xT_of 690 (by decide +kernel) (by decide +kernel)
theorem wd_691 : (Jvm.Cond.constantLong "ConfigTextsModel" (61 : Nat) (609950 : Int64)) ∈ xT := xT_of 691 (by decide +kernel) (by decide +kernel)
theorem wd_692 : (Jvm.Cond.constantLong "ConfigTextsModel" (63 : Nat) (1250547464 : Int64)) ∈ xT := xT_of 692 (by decide +kernel) (by decide +kernel)
theorem wd_693 : (Jvm.Cond.constantLong "ConfigTextsModel" (68 : Nat) (977815 : Int64)) ∈ xT := xT_of 693 (by decide +kernel) (by decide +kernel)
theorem wd_694 : (Jvm.Cond.constantLong "ConfigTextsModel" (70 : Nat) (990358 : Int64)) ∈ xT := xT_of 694 (by decide +kernel) (by decide +kernel)
theorem wd_695 : (Jvm.Cond.constantLong "ConfigTextsModel" (72 : Nat) (2230448 : Int64)) ∈ xT := xT_of 695 (by decide +kernel) (by decide +kernel)
theorem wd_696 : (Jvm.Cond.constantLong "ConfigTextsModel" (74 : Nat) (1167067 : Int64)) ∈ xT := xT_of 696 (by decide +kernel) (by decide +kernel)
theorem wd_697 : (Jvm.Cond.constantLong "ConfigTextsModel" (76 : Nat) (172942 : Int64)) ∈ xT := xT_of 697 (by decide +kernel) (by decide +kernel)
theorem wd_698 : (Jvm.Cond.constantLong "ConfigTextsModel" (78 : Nat) (461802 : Int64)) ∈ xT := xT_of 698 (by decide +kernel) (by decide +kernel)
theorem wd_699 : (Jvm.Cond.constantLong "ConfigTextsModel" (80 : Nat) (557340884 : Int64)) ∈ xT := xT_of 699 (by decide +kernel) (by decide +kernel)
theorem wd_824 : (Jvm.Cond.arrayClass Jvm.ClassFile.FieldType.boolean) ∈ xT := xT_of 824 (by decide +kernel) (by decide +kernel)
/-! the reference's constructor -/
theorem arrL_eq {cA : ClassId} {n : Nat} {f g : Nat → Int64} (h : ∀ j, j < n → f j = g j) : vp_cell cA (n, .inr (.inl f)) = vp_cell cA (n, .inr (.inl g)) := by
  rw [vp_cell_l, vp_cell_l, arrV, arrV]
  congr 1
  apply Array.ext
  · simp
  · intro i h1 h2
    simp at h1
    simp [h i h1]
theorem xP_arrL {D : va_G} {n i : Nat} {lay : Nat → Nat} {f : Nat → va_E} {H : Heap} {cA : ClassId} {k : Nat} {g g' : Nat → Int64} (h : va_P D xcl (xW n lay f) H) (hi : f i = .inl (cA, k, .inr (.inl g))) (hg : ∀ j, j < k → g j = g' j) : va_P D xcl (xW n lay (va_up f i (.inl (cA, k, .inr (.inl g'))))) H := by
  intro m q hq
  obtain ⟨hm, rfl⟩ := xW_get hq
  have h1 := h m _ (xW_at hm rfl)
  by_cases hmi : m = i
  · subst hmi
    rw [va_up_self]
    rw [hi] at h1
    show H[lay m]? = some (vp_cell cA (k, .inr (.inl g')))
    rw [← arrL_eq hg]
    exact h1
  · rw [va_up_ne _ _ hmi]
    exact h1
def mPi (D : va_G) (cA : Nat → ClassId) (b : Nat) (n : Nat) (f : Nat → va_E) (av : List Value) : Array Value → State → Prop := va_Pc av (fun U => U.heap.size = b + n ∧ va_P D xcl (xW n (cB b) f) U.heap ∧ va_K D xcl (mtys cA) U)
def mwords : List Int64 := [56342190987770, 911521961, 42328085711, 10108018, 1565746242358, 1119798751, 392633601858, 20621612726, 50164625867, 67245223210444, 10492554, 178357630, 4510156, 831669, 347, 21332, 381387657, 8254533549, 1807203470635, 45084019414, 17599292, 1080552497, 12158575]
def mkinds : List Int64 := [23946417994, 911521961, 609950, 1250547464]
def mactions : List Int64 := [977815, 990358, 2230448, 1167067, 172942, 461802, 557340884]
def M0 : XS := (fun i j => if i = 0 ∧ (j = 12 ∨ j = 14) then -1 else 0, fun i j => if i = 1 then mwords.getD j 0 else if i = 2 then mkinds.getD j 0 else if i = 3 then mactions.getD j 0 else 0)
def rm_MO_init : Room := { frames := 1, cells := 24, slots := 4886, locals := 20 }
theorem d_MO_init_0 : decode b_MO_init 0 = .ok (.aload_n 0, 1) := by decide +kernel
theorem d_MO_init_1 : decode b_MO_init 1 = .ok (.invokespecial 1, 3) := by decide +kernel
theorem d_MO_init_4 : decode b_MO_init 4 = .ok (.aload_n 0, 1) := by decide +kernel
theorem d_MO_init_5 : decode b_MO_init 5 = .ok (.bipush 23, 2) := by decide +kernel
theorem d_MO_init_7 : decode b_MO_init 7 = .ok (.newarray .long, 2) := by decide +kernel
theorem d_MO_init_9 : decode b_MO_init 9 = .ok (.dup, 1) := by decide +kernel
theorem d_MO_init_10 : decode b_MO_init 10 = .ok (.iconst 0, 1) := by decide +kernel
theorem d_MO_init_11 : decode b_MO_init 11 = .ok (.ldc2_w 7, 3) := by decide +kernel
theorem d_MO_init_14 : decode b_MO_init 14 = .ok (.lastore, 1) := by decide +kernel
theorem d_MO_init_15 : decode b_MO_init 15 = .ok (.dup, 1) := by decide +kernel
theorem d_MO_init_16 : decode b_MO_init 16 = .ok (.iconst 1, 1) := by decide +kernel
theorem d_MO_init_17 : decode b_MO_init 17 = .ok (.ldc2_w 9, 3) := by decide +kernel
theorem d_MO_init_20 : decode b_MO_init 20 = .ok (.lastore, 1) := by decide +kernel
theorem d_MO_init_21 : decode b_MO_init 21 = .ok (.dup, 1) := by decide +kernel
theorem d_MO_init_22 : decode b_MO_init 22 = .ok (.iconst 2, 1) := by decide +kernel
theorem d_MO_init_23 : decode b_MO_init 23 = .ok (.ldc2_w 11, 3) := by decide +kernel
theorem d_MO_init_26 : decode b_MO_init 26 = .ok (.lastore, 1) := by decide +kernel
theorem d_MO_init_27 : decode b_MO_init 27 = .ok (.dup, 1) := by decide +kernel
theorem d_MO_init_28 : decode b_MO_init 28 = .ok (.iconst 3, 1) := by decide +kernel
theorem d_MO_init_29 : decode b_MO_init 29 = .ok (.ldc2_w 13, 3) := by decide +kernel
theorem d_MO_init_32 : decode b_MO_init 32 = .ok (.lastore, 1) := by decide +kernel
theorem d_MO_init_33 : decode b_MO_init 33 = .ok (.dup, 1) := by decide +kernel
theorem d_MO_init_34 : decode b_MO_init 34 = .ok (.iconst 4, 1) := by decide +kernel
theorem d_MO_init_35 : decode b_MO_init 35 = .ok (.ldc2_w 15, 3) := by decide +kernel
theorem d_MO_init_38 : decode b_MO_init 38 = .ok (.lastore, 1) := by decide +kernel
theorem d_MO_init_39 : decode b_MO_init 39 = .ok (.dup, 1) := by decide +kernel
theorem d_MO_init_40 : decode b_MO_init 40 = .ok (.iconst 5, 1) := by decide +kernel
theorem d_MO_init_41 : decode b_MO_init 41 = .ok (.ldc2_w 17, 3) := by decide +kernel
theorem d_MO_init_44 : decode b_MO_init 44 = .ok (.lastore, 1) := by decide +kernel
theorem d_MO_init_45 : decode b_MO_init 45 = .ok (.dup, 1) := by decide +kernel
theorem d_MO_init_46 : decode b_MO_init 46 = .ok (.bipush 6, 2) := by decide +kernel
theorem d_MO_init_48 : decode b_MO_init 48 = .ok (.ldc2_w 19, 3) := by decide +kernel
theorem d_MO_init_51 : decode b_MO_init 51 = .ok (.lastore, 1) := by decide +kernel
theorem d_MO_init_52 : decode b_MO_init 52 = .ok (.dup, 1) := by decide +kernel
theorem d_MO_init_53 : decode b_MO_init 53 = .ok (.bipush 7, 2) := by decide +kernel
theorem d_MO_init_55 : decode b_MO_init 55 = .ok (.ldc2_w 21, 3) := by decide +kernel
theorem d_MO_init_58 : decode b_MO_init 58 = .ok (.lastore, 1) := by decide +kernel
theorem d_MO_init_59 : decode b_MO_init 59 = .ok (.dup, 1) := by decide +kernel
theorem d_MO_init_60 : decode b_MO_init 60 = .ok (.bipush 8, 2) := by decide +kernel
theorem d_MO_init_62 : decode b_MO_init 62 = .ok (.ldc2_w 23, 3) := by decide +kernel
theorem d_MO_init_65 : decode b_MO_init 65 = .ok (.lastore, 1) := by decide +kernel
theorem d_MO_init_66 : decode b_MO_init 66 = .ok (.dup, 1) := by decide +kernel
theorem d_MO_init_67 : decode b_MO_init 67 = .ok (.bipush 9, 2) := by decide +kernel
theorem d_MO_init_69 : decode b_MO_init 69 = .ok (.ldc2_w 25, 3) := by decide +kernel
theorem d_MO_init_72 : decode b_MO_init 72 = .ok (.lastore, 1) := by decide +kernel
theorem d_MO_init_73 : decode b_MO_init 73 = .ok (.dup, 1) := by decide +kernel
theorem d_MO_init_74 : decode b_MO_init 74 = .ok (.bipush 10, 2) := by decide +kernel
theorem d_MO_init_76 : decode b_MO_init 76 = .ok (.ldc2_w 27, 3) := by decide +kernel
theorem d_MO_init_79 : decode b_MO_init 79 = .ok (.lastore, 1) := by decide +kernel
theorem d_MO_init_80 : decode b_MO_init 80 = .ok (.dup, 1) := by decide +kernel
theorem d_MO_init_81 : decode b_MO_init 81 = .ok (.bipush 11, 2) := by decide +kernel
theorem d_MO_init_83 : decode b_MO_init 83 = .ok (.ldc2_w 29, 3) := by decide +kernel
theorem d_MO_init_86 : decode b_MO_init 86 = .ok (.lastore, 1) := by decide +kernel
theorem d_MO_init_87 : decode b_MO_init 87 = .ok (.dup, 1) := by decide +kernel
theorem d_MO_init_88 : decode b_MO_init 88 = .ok (.bipush 12, 2) := by decide +kernel
theorem d_MO_init_90 : decode b_MO_init 90 = .ok (.ldc2_w 31, 3) := by decide +kernel
theorem d_MO_init_93 : decode b_MO_init 93 = .ok (.lastore, 1) := by decide +kernel
theorem d_MO_init_94 : decode b_MO_init 94 = .ok (.dup, 1) := by decide +kernel
theorem d_MO_init_95 : decode b_MO_init 95 = .ok (.bipush 13, 2) := by decide +kernel
theorem d_MO_init_97 : decode b_MO_init 97 = .ok (.ldc2_w 33, 3) := by decide +kernel
theorem d_MO_init_100 : decode b_MO_init 100 = .ok (.lastore, 1) := by decide +kernel
theorem d_MO_init_101 : decode b_MO_init 101 = .ok (.dup, 1) := by decide +kernel
theorem d_MO_init_102 : decode b_MO_init 102 = .ok (.bipush 14, 2) := by decide +kernel
theorem d_MO_init_104 : decode b_MO_init 104 = .ok (.ldc2_w 35, 3) := by decide +kernel
theorem d_MO_init_107 : decode b_MO_init 107 = .ok (.lastore, 1) := by decide +kernel
theorem d_MO_init_108 : decode b_MO_init 108 = .ok (.dup, 1) := by decide +kernel
theorem d_MO_init_109 : decode b_MO_init 109 = .ok (.bipush 15, 2) := by decide +kernel
theorem d_MO_init_111 : decode b_MO_init 111 = .ok (.ldc2_w 37, 3) := by decide +kernel
theorem d_MO_init_114 : decode b_MO_init 114 = .ok (.lastore, 1) := by decide +kernel
theorem d_MO_init_115 : decode b_MO_init 115 = .ok (.dup, 1) := by decide +kernel
theorem d_MO_init_116 : decode b_MO_init 116 = .ok (.bipush 16, 2) := by decide +kernel
theorem d_MO_init_118 : decode b_MO_init 118 = .ok (.ldc2_w 39, 3) := by decide +kernel
theorem d_MO_init_121 : decode b_MO_init 121 = .ok (.lastore, 1) := by decide +kernel
theorem d_MO_init_122 : decode b_MO_init 122 = .ok (.dup, 1) := by decide +kernel
theorem d_MO_init_123 : decode b_MO_init 123 = .ok (.bipush 17, 2) := by decide +kernel
theorem d_MO_init_125 : decode b_MO_init 125 = .ok (.ldc2_w 41, 3) := by decide +kernel
theorem d_MO_init_128 : decode b_MO_init 128 = .ok (.lastore, 1) := by decide +kernel
theorem d_MO_init_129 : decode b_MO_init 129 = .ok (.dup, 1) := by decide +kernel
theorem d_MO_init_130 : decode b_MO_init 130 = .ok (.bipush 18, 2) := by decide +kernel
theorem d_MO_init_132 : decode b_MO_init 132 = .ok (.ldc2_w 43, 3) := by decide +kernel
theorem d_MO_init_135 : decode b_MO_init 135 = .ok (.lastore, 1) := by decide +kernel
theorem d_MO_init_136 : decode b_MO_init 136 = .ok (.dup, 1) := by decide +kernel
theorem d_MO_init_137 : decode b_MO_init 137 = .ok (.bipush 19, 2) := by decide +kernel
theorem d_MO_init_139 : decode b_MO_init 139 = .ok (.ldc2_w 45, 3) := by decide +kernel
theorem d_MO_init_142 : decode b_MO_init 142 = .ok (.lastore, 1) := by decide +kernel
theorem d_MO_init_143 : decode b_MO_init 143 = .ok (.dup, 1) := by decide +kernel
theorem d_MO_init_144 : decode b_MO_init 144 = .ok (.bipush 20, 2) := by decide +kernel
theorem d_MO_init_146 : decode b_MO_init 146 = .ok (.ldc2_w 47, 3) := by decide +kernel
theorem d_MO_init_149 : decode b_MO_init 149 = .ok (.lastore, 1) := by decide +kernel
theorem d_MO_init_150 : decode b_MO_init 150 = .ok (.dup, 1) := by decide +kernel
theorem d_MO_init_151 : decode b_MO_init 151 = .ok (.bipush 21, 2) := by decide +kernel
theorem d_MO_init_153 : decode b_MO_init 153 = .ok (.ldc2_w 49, 3) := by decide +kernel
theorem d_MO_init_156 : decode b_MO_init 156 = .ok (.lastore, 1) := by decide +kernel
theorem d_MO_init_157 : decode b_MO_init 157 = .ok (.dup, 1) := by decide +kernel
theorem d_MO_init_158 : decode b_MO_init 158 = .ok (.bipush 22, 2) := by decide +kernel
theorem d_MO_init_160 : decode b_MO_init 160 = .ok (.ldc2_w 51, 3) := by decide +kernel
theorem d_MO_init_163 : decode b_MO_init 163 = .ok (.lastore, 1) := by decide +kernel
theorem d_MO_init_164 : decode b_MO_init 164 = .ok (.putfield 53, 3) := by decide +kernel
theorem d_MO_init_167 : decode b_MO_init 167 = .ok (.aload_n 0, 1) := by decide +kernel
theorem d_MO_init_168 : decode b_MO_init 168 = .ok (.iconst 4, 1) := by decide +kernel
theorem d_MO_init_169 : decode b_MO_init 169 = .ok (.newarray .long, 2) := by decide +kernel
theorem d_MO_init_171 : decode b_MO_init 171 = .ok (.dup, 1) := by decide +kernel
theorem d_MO_init_172 : decode b_MO_init 172 = .ok (.iconst 0, 1) := by decide +kernel
theorem d_MO_init_173 : decode b_MO_init 173 = .ok (.ldc2_w 59, 3) := by decide +kernel
theorem d_MO_init_176 : decode b_MO_init 176 = .ok (.lastore, 1) := by decide +kernel
theorem d_MO_init_177 : decode b_MO_init 177 = .ok (.dup, 1) := by decide +kernel
theorem d_MO_init_178 : decode b_MO_init 178 = .ok (.iconst 1, 1) := by decide +kernel
theorem d_MO_init_179 : decode b_MO_init 179 = .ok (.ldc2_w 9, 3) := by decide +kernel
theorem d_MO_init_182 : decode b_MO_init 182 = .ok (.lastore, 1) := by decide +kernel
theorem d_MO_init_183 : decode b_MO_init 183 = .ok (.dup, 1) := by decide +kernel
theorem d_MO_init_184 : decode b_MO_init 184 = .ok (.iconst 2, 1) := by decide +kernel
theorem d_MO_init_185 : decode b_MO_init 185 = .ok (.ldc2_w 61, 3) := by decide +kernel
theorem d_MO_init_188 : decode b_MO_init 188 = .ok (.lastore, 1) := by decide +kernel
theorem d_MO_init_189 : decode b_MO_init 189 = .ok (.dup, 1) := by decide +kernel
theorem d_MO_init_190 : decode b_MO_init 190 = .ok (.iconst 3, 1) := by decide +kernel
theorem d_MO_init_191 : decode b_MO_init 191 = .ok (.ldc2_w 63, 3) := by decide +kernel
theorem d_MO_init_194 : decode b_MO_init 194 = .ok (.lastore, 1) := by decide +kernel
theorem d_MO_init_195 : decode b_MO_init 195 = .ok (.putfield 65, 3) := by decide +kernel
theorem d_MO_init_198 : decode b_MO_init 198 = .ok (.aload_n 0, 1) := by decide +kernel
theorem d_MO_init_199 : decode b_MO_init 199 = .ok (.bipush 7, 2) := by decide +kernel
theorem d_MO_init_201 : decode b_MO_init 201 = .ok (.newarray .long, 2) := by decide +kernel
theorem d_MO_init_203 : decode b_MO_init 203 = .ok (.dup, 1) := by decide +kernel
theorem d_MO_init_204 : decode b_MO_init 204 = .ok (.iconst 0, 1) := by decide +kernel
theorem d_MO_init_205 : decode b_MO_init 205 = .ok (.ldc2_w 68, 3) := by decide +kernel
theorem d_MO_init_208 : decode b_MO_init 208 = .ok (.lastore, 1) := by decide +kernel
theorem d_MO_init_209 : decode b_MO_init 209 = .ok (.dup, 1) := by decide +kernel
theorem d_MO_init_210 : decode b_MO_init 210 = .ok (.iconst 1, 1) := by decide +kernel
theorem d_MO_init_211 : decode b_MO_init 211 = .ok (.ldc2_w 70, 3) := by decide +kernel
theorem d_MO_init_214 : decode b_MO_init 214 = .ok (.lastore, 1) := by decide +kernel
theorem d_MO_init_215 : decode b_MO_init 215 = .ok (.dup, 1) := by decide +kernel
theorem d_MO_init_216 : decode b_MO_init 216 = .ok (.iconst 2, 1) := by decide +kernel
theorem d_MO_init_217 : decode b_MO_init 217 = .ok (.ldc2_w 72, 3) := by decide +kernel
theorem d_MO_init_220 : decode b_MO_init 220 = .ok (.lastore, 1) := by decide +kernel
theorem d_MO_init_221 : decode b_MO_init 221 = .ok (.dup, 1) := by decide +kernel
theorem d_MO_init_222 : decode b_MO_init 222 = .ok (.iconst 3, 1) := by decide +kernel
theorem d_MO_init_223 : decode b_MO_init 223 = .ok (.ldc2_w 74, 3) := by decide +kernel
theorem d_MO_init_226 : decode b_MO_init 226 = .ok (.lastore, 1) := by decide +kernel
theorem d_MO_init_227 : decode b_MO_init 227 = .ok (.dup, 1) := by decide +kernel
theorem d_MO_init_228 : decode b_MO_init 228 = .ok (.iconst 4, 1) := by decide +kernel
theorem d_MO_init_229 : decode b_MO_init 229 = .ok (.ldc2_w 76, 3) := by decide +kernel
theorem d_MO_init_232 : decode b_MO_init 232 = .ok (.lastore, 1) := by decide +kernel
theorem d_MO_init_233 : decode b_MO_init 233 = .ok (.dup, 1) := by decide +kernel
theorem d_MO_init_234 : decode b_MO_init 234 = .ok (.iconst 5, 1) := by decide +kernel
theorem d_MO_init_235 : decode b_MO_init 235 = .ok (.ldc2_w 78, 3) := by decide +kernel
theorem d_MO_init_238 : decode b_MO_init 238 = .ok (.lastore, 1) := by decide +kernel
theorem d_MO_init_239 : decode b_MO_init 239 = .ok (.dup, 1) := by decide +kernel
theorem d_MO_init_240 : decode b_MO_init 240 = .ok (.bipush 6, 2) := by decide +kernel
theorem d_MO_init_242 : decode b_MO_init 242 = .ok (.ldc2_w 80, 3) := by decide +kernel
theorem d_MO_init_245 : decode b_MO_init 245 = .ok (.lastore, 1) := by decide +kernel
theorem d_MO_init_246 : decode b_MO_init 246 = .ok (.putfield 82, 3) := by decide +kernel
theorem d_MO_init_249 : decode b_MO_init 249 = .ok (.aload_n 0, 1) := by decide +kernel
theorem d_MO_init_250 : decode b_MO_init 250 = .ok (.sipush 2000, 3) := by decide +kernel
theorem d_MO_init_253 : decode b_MO_init 253 = .ok (.newarray .byte, 2) := by decide +kernel
theorem d_MO_init_255 : decode b_MO_init 255 = .ok (.putfield 85, 3) := by decide +kernel
theorem d_MO_init_258 : decode b_MO_init 258 = .ok (.aload_n 0, 1) := by decide +kernel
theorem d_MO_init_259 : decode b_MO_init 259 = .ok (.iconst (-1), 1) := by decide +kernel
theorem d_MO_init_260 : decode b_MO_init 260 = .ok (.putfield 89, 3) := by decide +kernel
theorem d_MO_init_263 : decode b_MO_init 263 = .ok (.aload_n 0, 1) := by decide +kernel
theorem d_MO_init_264 : decode b_MO_init 264 = .ok (.iconst (-1), 1) := by decide +kernel
theorem d_MO_init_265 : decode b_MO_init 265 = .ok (.putfield 93, 3) := by decide +kernel
theorem d_MO_init_268 : decode b_MO_init 268 = .ok (.aload_n 0, 1) := by decide +kernel
theorem d_MO_init_269 : decode b_MO_init 269 = .ok (.bipush 8, 2) := by decide +kernel
theorem d_MO_init_271 : decode b_MO_init 271 = .ok (.newarray .long, 2) := by decide +kernel
theorem d_MO_init_273 : decode b_MO_init 273 = .ok (.putfield 96, 3) := by decide +kernel
theorem d_MO_init_276 : decode b_MO_init 276 = .ok (.aload_n 0, 1) := by decide +kernel
theorem d_MO_init_277 : decode b_MO_init 277 = .ok (.bipush 8, 2) := by decide +kernel
theorem d_MO_init_279 : decode b_MO_init 279 = .ok (.newarray .int, 2) := by decide +kernel
theorem d_MO_init_281 : decode b_MO_init 281 = .ok (.putfield 99, 3) := by decide +kernel
theorem d_MO_init_284 : decode b_MO_init 284 = .ok (.aload_n 0, 1) := by decide +kernel
theorem d_MO_init_285 : decode b_MO_init 285 = .ok (.bipush 8, 2) := by decide +kernel
theorem d_MO_init_287 : decode b_MO_init 287 = .ok (.newarray .int, 2) := by decide +kernel
theorem d_MO_init_289 : decode b_MO_init 289 = .ok (.putfield 103, 3) := by decide +kernel
theorem d_MO_init_292 : decode b_MO_init 292 = .ok (.aload_n 0, 1) := by decide +kernel
theorem d_MO_init_293 : decode b_MO_init 293 = .ok (.bipush 8, 2) := by decide +kernel
theorem d_MO_init_295 : decode b_MO_init 295 = .ok (.newarray .int, 2) := by decide +kernel
theorem d_MO_init_297 : decode b_MO_init 297 = .ok (.putfield 106, 3) := by decide +kernel
theorem d_MO_init_300 : decode b_MO_init 300 = .ok (.aload_n 0, 1) := by decide +kernel
theorem d_MO_init_301 : decode b_MO_init 301 = .ok (.bipush 32, 2) := by decide +kernel
theorem d_MO_init_303 : decode b_MO_init 303 = .ok (.newarray .int, 2) := by decide +kernel
theorem d_MO_init_305 : decode b_MO_init 305 = .ok (.putfield 109, 3) := by decide +kernel
theorem d_MO_init_308 : decode b_MO_init 308 = .ok (.aload_n 0, 1) := by decide +kernel
theorem d_MO_init_309 : decode b_MO_init 309 = .ok (.bipush 48, 2) := by decide +kernel
theorem d_MO_init_311 : decode b_MO_init 311 = .ok (.newarray .int, 2) := by decide +kernel
theorem d_MO_init_313 : decode b_MO_init 313 = .ok (.putfield 112, 3) := by decide +kernel
theorem d_MO_init_316 : decode b_MO_init 316 = .ok (.aload_n 0, 1) := by decide +kernel
theorem d_MO_init_317 : decode b_MO_init 317 = .ok (.bipush 8, 2) := by decide +kernel
theorem d_MO_init_319 : decode b_MO_init 319 = .ok (.newarray .boolean, 2) := by decide +kernel
theorem d_MO_init_321 : decode b_MO_init 321 = .ok (.putfield 115, 3) := by decide +kernel
theorem d_MO_init_324 : decode b_MO_init 324 = .ok (.aload_n 0, 1) := by decide +kernel
theorem d_MO_init_325 : decode b_MO_init 325 = .ok (.iconst 4, 1) := by decide +kernel
theorem d_MO_init_326 : decode b_MO_init 326 = .ok (.newarray .boolean, 2) := by decide +kernel
theorem d_MO_init_328 : decode b_MO_init 328 = .ok (.putfield 119, 3) := by decide +kernel
theorem d_MO_init_331 : decode b_MO_init 331 = .ok (.aload_n 0, 1) := by decide +kernel
theorem d_MO_init_332 : decode b_MO_init 332 = .ok (.bipush 8, 2) := by decide +kernel
theorem d_MO_init_334 : decode b_MO_init 334 = .ok (.newarray .int, 2) := by decide +kernel
theorem d_MO_init_336 : decode b_MO_init 336 = .ok (.putfield 122, 3) := by decide +kernel
theorem d_MO_init_339 : decode b_MO_init 339 = .ok (.aload_n 0, 1) := by decide +kernel
theorem d_MO_init_340 : decode b_MO_init 340 = .ok (.sipush 320, 3) := by decide +kernel
theorem d_MO_init_343 : decode b_MO_init 343 = .ok (.newarray .int, 2) := by decide +kernel
theorem d_MO_init_345 : decode b_MO_init 345 = .ok (.putfield 125, 3) := by decide +kernel
theorem d_MO_init_348 : decode b_MO_init 348 = .ok (.aload_n 0, 1) := by decide +kernel
theorem d_MO_init_349 : decode b_MO_init 349 = .ok (.sipush 320, 3) := by decide +kernel
theorem d_MO_init_352 : decode b_MO_init 352 = .ok (.newarray .int, 2) := by decide +kernel
theorem d_MO_init_354 : decode b_MO_init 354 = .ok (.putfield 128, 3) := by decide +kernel
theorem d_MO_init_357 : decode b_MO_init 357 = .ok (.aload_n 0, 1) := by decide +kernel
theorem d_MO_init_358 : decode b_MO_init 358 = .ok (.sipush 1600, 3) := by decide +kernel
theorem d_MO_init_361 : decode b_MO_init 361 = .ok (.newarray .int, 2) := by decide +kernel
theorem d_MO_init_363 : decode b_MO_init 363 = .ok (.putfield 131, 3) := by decide +kernel
theorem d_MO_init_366 : decode b_MO_init 366 = .ok (.aload_n 0, 1) := by decide +kernel
theorem d_MO_init_367 : decode b_MO_init 367 = .ok (.sipush 320, 3) := by decide +kernel
theorem d_MO_init_370 : decode b_MO_init 370 = .ok (.newarray .long, 2) := by decide +kernel
theorem d_MO_init_372 : decode b_MO_init 372 = .ok (.putfield 134, 3) := by decide +kernel
theorem d_MO_init_375 : decode b_MO_init 375 = .ok (.aload_n 0, 1) := by decide +kernel
theorem d_MO_init_376 : decode b_MO_init 376 = .ok (.bipush 16, 2) := by decide +kernel
theorem d_MO_init_378 : decode b_MO_init 378 = .ok (.newarray .int, 2) := by decide +kernel
theorem d_MO_init_380 : decode b_MO_init 380 = .ok (.putfield 137, 3) := by decide +kernel
theorem d_MO_init_383 : decode b_MO_init 383 = .ok (.aload_n 0, 1) := by decide +kernel
theorem d_MO_init_384 : decode b_MO_init 384 = .ok (.bipush 16, 2) := by decide +kernel
theorem d_MO_init_386 : decode b_MO_init 386 = .ok (.newarray .int, 2) := by decide +kernel
theorem d_MO_init_388 : decode b_MO_init 388 = .ok (.putfield 140, 3) := by decide +kernel
theorem d_MO_init_391 : decode b_MO_init 391 = .ok (.aload_n 0, 1) := by decide +kernel
theorem d_MO_init_392 : decode b_MO_init 392 = .ok (.bipush 16, 2) := by decide +kernel
theorem d_MO_init_394 : decode b_MO_init 394 = .ok (.newarray .int, 2) := by decide +kernel
theorem d_MO_init_396 : decode b_MO_init 396 = .ok (.putfield 143, 3) := by decide +kernel
theorem d_MO_init_399 : decode b_MO_init 399 = .ok (.aload_n 0, 1) := by decide +kernel
theorem d_MO_init_400 : decode b_MO_init 400 = .ok (.bipush 16, 2) := by decide +kernel
theorem d_MO_init_402 : decode b_MO_init 402 = .ok (.newarray .int, 2) := by decide +kernel
theorem d_MO_init_404 : decode b_MO_init 404 = .ok (.putfield 146, 3) := by decide +kernel
theorem d_MO_init_407 : decode b_MO_init 407 = .ok (.aload_n 0, 1) := by decide +kernel
theorem d_MO_init_408 : decode b_MO_init 408 = .ok (.bipush 64, 2) := by decide +kernel
theorem d_MO_init_410 : decode b_MO_init 410 = .ok (.newarray .int, 2) := by decide +kernel
theorem d_MO_init_412 : decode b_MO_init 412 = .ok (.putfield 149, 3) := by decide +kernel
theorem d_MO_init_415 : decode b_MO_init 415 = .ok (.aload_n 0, 1) := by decide +kernel
theorem d_MO_init_416 : decode b_MO_init 416 = .ok (.bipush 16, 2) := by decide +kernel
theorem d_MO_init_418 : decode b_MO_init 418 = .ok (.newarray .int, 2) := by decide +kernel
theorem d_MO_init_420 : decode b_MO_init 420 = .ok (.putfield 152, 3) := by decide +kernel
theorem d_MO_init_423 : decode b_MO_init 423 = .ok (.aload_n 0, 1) := by decide +kernel
theorem d_MO_init_424 : decode b_MO_init 424 = .ok (.bipush 16, 2) := by decide +kernel
theorem d_MO_init_426 : decode b_MO_init 426 = .ok (.newarray .int, 2) := by decide +kernel
theorem d_MO_init_428 : decode b_MO_init 428 = .ok (.putfield 155, 3) := by decide +kernel
theorem d_MO_init_431 : decode b_MO_init 431 = .ok (.return_, 1) := by decide +kernel
set_option maxHeartbeats 8000000 in
set_option maxRecDepth 100000 in
theorem c_MO_init (l : Launch) (D : va_G) (cA : Nat → ClassId) (b : Nat) (f : Nat → va_E) (hf : f 0 = .inr (6, [.int 0, .null, .null, .null, .null, .int 0, .int 0, .int 0, .int 0, .int 0, .long 0, .int 0, .int 0, .int 0, .int 0, .int 0, .null, .null, .null, .null, .null, .null, .null, .null, .null, .null, .null, .null, .null, .int 0, .int 0, .int 0, .int 0, .int 0, .null, .null, .null, .null, .null, .null, .null])) : Met l y_MO_init (.code y_MO_init b_MO_init 1 none :: xT) rm_MO_init (mPi D cA b 1 f [.ref (b + 0)]) (cQv D b 25 (fun i => mcell (cB b) cA i (M0.1 i) (M0.2 i))) 24 4886 (cO b) := by
  refine Met.ofW (cc := b_MO_init) (maxL := 1) (ret := none) (by decide +kernel) rfl ?_
  intro p e s m args below meth c s₁ B hml hv
  obtain ⟨rfl, hz, hP, hK⟩ := hv
  have hin : meth.name = "<init>" := (name_of_methodNamed B.named B.method).1
  have C := xB_of B hml
  obtain ⟨hx, hb, hr, hml, hown, hts, hlk, hnh⟩ := id C
  have hA : ∀ q : Nat, s.heap.size ≤ q → cO b q := fun q hq => Nat.le_trans (by omega) hq
  have hS : va_S (cO b) s.heap s.heap [] := va_S.rf
  have hl := lv_entry ([.ref (b + 0)]) (n := 1) (Nat.le_of_ble_eq_true rfl)
  rw [lg_entry_eq]
  generalize (lg_sl ([.ref (b + 0)]) ++ List.replicate (1 - (lg_sl ([.ref (b + 0)])).length) Slot.unset).toArray = ls at hl ⊢
  refine lv_aload_n hx hb d_MO_init_0 rfl (lv_at hl 0 rfl) ?_
  refine W.objInit hx hb hown (hts _ wd_666) (hts _ wd_24) (hts _ wd_25) rfl (hl.1.trans hml.symm) rfl d_MO_init_1 (Nat.le_of_ble_eq_true rfl) (Nat.le_of_ble_eq_true rfl) ?_
  refine W.eq (g2 := F0 m 4 ls []) rfl ?_
  refine lv_aload_n hx hb d_MO_init_4 rfl (lv_at hl 0 rfl) ?_
  refine lv_bipush (v := (23 : Int32)) hx hb d_MO_init_5 (by decide) ?_
  refine va_newa (atype := .long) (N' := 23) (a0 := (23, .inr (.inl (fun _ => 0)))) hx hb (hts _ wd_108) rfl hK hP cD hS hA (fun _ => rfl) (by decide) (by decide +kernel) (by decide) (by decide) (by decide) d_MO_init_7 (fun q c1 H hK1 hP hD hS => ?_)
  have e1 := tys_one hK1 1 rfl
  subst e1
  clear hK1
  refine W.size (fun hsz => ?_)
  have e1 := cNext hP hD (by omega)
  subst e1
  clear hD hsz
  rw [cPush] at hP
  refine lv_dup hx hb d_MO_init_9 rfl ?_
  refine lv_iconst (v := (0 : Int32)) hx hb d_MO_init_10 (by decide) ?_
  refine lv_ldc2 (v := (56342190987770 : Int64)) hx hb hown (hts _ wd_667) d_MO_init_11 ?_
  refine va_last hx hb hK hP cD hS 1 1 (n := 23) (a := b + 1) (xW_at (by omega) (va_up_self _ _ _)) rfl (by unfold vp_in; decide) d_MO_init_14 (fun H locs hP _ hS => ?_)
  rw [xW_up (lay := cB b) (i := 1), bx_uu] at hP
  refine lv_dup hx hb d_MO_init_15 rfl ?_
  refine lv_iconst (v := (1 : Int32)) hx hb d_MO_init_16 (by decide) ?_
  refine lv_ldc2 (v := (911521961 : Int64)) hx hb hown (hts _ wd_668) d_MO_init_17 ?_
  refine va_last hx hb hK hP cD hS 1 1 (n := 23) (a := b + 1) (xW_at (by omega) (va_up_self _ _ _)) rfl (by unfold vp_in; decide) d_MO_init_20 (fun H locs hP _ hS => ?_)
  rw [xW_up (lay := cB b) (i := 1), bx_uu] at hP
  refine lv_dup hx hb d_MO_init_21 rfl ?_
  refine lv_iconst (v := (2 : Int32)) hx hb d_MO_init_22 (by decide) ?_
  refine lv_ldc2 (v := (42328085711 : Int64)) hx hb hown (hts _ wd_669) d_MO_init_23 ?_
  refine va_last hx hb hK hP cD hS 1 1 (n := 23) (a := b + 1) (xW_at (by omega) (va_up_self _ _ _)) rfl (by unfold vp_in; decide) d_MO_init_26 (fun H locs hP _ hS => ?_)
  rw [xW_up (lay := cB b) (i := 1), bx_uu] at hP
  refine lv_dup hx hb d_MO_init_27 rfl ?_
  refine lv_iconst (v := (3 : Int32)) hx hb d_MO_init_28 (by decide) ?_
  refine lv_ldc2 (v := (10108018 : Int64)) hx hb hown (hts _ wd_670) d_MO_init_29 ?_
  refine va_last hx hb hK hP cD hS 1 1 (n := 23) (a := b + 1) (xW_at (by omega) (va_up_self _ _ _)) rfl (by unfold vp_in; decide) d_MO_init_32 (fun H locs hP _ hS => ?_)
  rw [xW_up (lay := cB b) (i := 1), bx_uu] at hP
  refine lv_dup hx hb d_MO_init_33 rfl ?_
  refine lv_iconst (v := (4 : Int32)) hx hb d_MO_init_34 (by decide) ?_
  refine lv_ldc2 (v := (1565746242358 : Int64)) hx hb hown (hts _ wd_671) d_MO_init_35 ?_
  refine va_last hx hb hK hP cD hS 1 1 (n := 23) (a := b + 1) (xW_at (by omega) (va_up_self _ _ _)) rfl (by unfold vp_in; decide) d_MO_init_38 (fun H locs hP _ hS => ?_)
  rw [xW_up (lay := cB b) (i := 1), bx_uu] at hP
  refine lv_dup hx hb d_MO_init_39 rfl ?_
  refine lv_iconst (v := (5 : Int32)) hx hb d_MO_init_40 (by decide) ?_
  refine lv_ldc2 (v := (1119798751 : Int64)) hx hb hown (hts _ wd_672) d_MO_init_41 ?_
  refine va_last hx hb hK hP cD hS 1 1 (n := 23) (a := b + 1) (xW_at (by omega) (va_up_self _ _ _)) rfl (by unfold vp_in; decide) d_MO_init_44 (fun H locs hP _ hS => ?_)
  rw [xW_up (lay := cB b) (i := 1), bx_uu] at hP
  refine lv_dup hx hb d_MO_init_45 rfl ?_
  refine lv_bipush (v := (6 : Int32)) hx hb d_MO_init_46 (by decide) ?_
  refine lv_ldc2 (v := (392633601858 : Int64)) hx hb hown (hts _ wd_673) d_MO_init_48 ?_
  refine va_last hx hb hK hP cD hS 1 1 (n := 23) (a := b + 1) (xW_at (by omega) (va_up_self _ _ _)) rfl (by unfold vp_in; decide) d_MO_init_51 (fun H locs hP _ hS => ?_)
  rw [xW_up (lay := cB b) (i := 1), bx_uu] at hP
  refine lv_dup hx hb d_MO_init_52 rfl ?_
  refine lv_bipush (v := (7 : Int32)) hx hb d_MO_init_53 (by decide) ?_
  refine lv_ldc2 (v := (20621612726 : Int64)) hx hb hown (hts _ wd_674) d_MO_init_55 ?_
  refine va_last hx hb hK hP cD hS 1 1 (n := 23) (a := b + 1) (xW_at (by omega) (va_up_self _ _ _)) rfl (by unfold vp_in; decide) d_MO_init_58 (fun H locs hP _ hS => ?_)
  rw [xW_up (lay := cB b) (i := 1), bx_uu] at hP
  refine lv_dup hx hb d_MO_init_59 rfl ?_
  refine lv_bipush (v := (8 : Int32)) hx hb d_MO_init_60 (by decide) ?_
  refine lv_ldc2 (v := (50164625867 : Int64)) hx hb hown (hts _ wd_675) d_MO_init_62 ?_
  refine va_last hx hb hK hP cD hS 1 1 (n := 23) (a := b + 1) (xW_at (by omega) (va_up_self _ _ _)) rfl (by unfold vp_in; decide) d_MO_init_65 (fun H locs hP _ hS => ?_)
  rw [xW_up (lay := cB b) (i := 1), bx_uu] at hP
  refine lv_dup hx hb d_MO_init_66 rfl ?_
  refine lv_bipush (v := (9 : Int32)) hx hb d_MO_init_67 (by decide) ?_
  refine lv_ldc2 (v := (67245223210444 : Int64)) hx hb hown (hts _ wd_676) d_MO_init_69 ?_
  refine va_last hx hb hK hP cD hS 1 1 (n := 23) (a := b + 1) (xW_at (by omega) (va_up_self _ _ _)) rfl (by unfold vp_in; decide) d_MO_init_72 (fun H locs hP _ hS => ?_)
  rw [xW_up (lay := cB b) (i := 1), bx_uu] at hP
  refine lv_dup hx hb d_MO_init_73 rfl ?_
  refine lv_bipush (v := (10 : Int32)) hx hb d_MO_init_74 (by decide) ?_
  refine lv_ldc2 (v := (10492554 : Int64)) hx hb hown (hts _ wd_677) d_MO_init_76 ?_
  refine va_last hx hb hK hP cD hS 1 1 (n := 23) (a := b + 1) (xW_at (by omega) (va_up_self _ _ _)) rfl (by unfold vp_in; decide) d_MO_init_79 (fun H locs hP _ hS => ?_)
  rw [xW_up (lay := cB b) (i := 1), bx_uu] at hP
  refine lv_dup hx hb d_MO_init_80 rfl ?_
  refine lv_bipush (v := (11 : Int32)) hx hb d_MO_init_81 (by decide) ?_
  refine lv_ldc2 (v := (178357630 : Int64)) hx hb hown (hts _ wd_678) d_MO_init_83 ?_
  refine va_last hx hb hK hP cD hS 1 1 (n := 23) (a := b + 1) (xW_at (by omega) (va_up_self _ _ _)) rfl (by unfold vp_in; decide) d_MO_init_86 (fun H locs hP _ hS => ?_)
  rw [xW_up (lay := cB b) (i := 1), bx_uu] at hP
  refine lv_dup hx hb d_MO_init_87 rfl ?_
  refine lv_bipush (v := (12 : Int32)) hx hb d_MO_init_88 (by decide) ?_
  refine lv_ldc2 (v := (4510156 : Int64)) hx hb hown (hts _ wd_679) d_MO_init_90 ?_
  refine va_last hx hb hK hP cD hS 1 1 (n := 23) (a := b + 1) (xW_at (by omega) (va_up_self _ _ _)) rfl (by unfold vp_in; decide) d_MO_init_93 (fun H locs hP _ hS => ?_)
  rw [xW_up (lay := cB b) (i := 1), bx_uu] at hP
  refine lv_dup hx hb d_MO_init_94 rfl ?_
  refine lv_bipush (v := (13 : Int32)) hx hb d_MO_init_95 (by decide) ?_
  refine lv_ldc2 (v := (831669 : Int64)) hx hb hown (hts _ wd_680) d_MO_init_97 ?_
  refine va_last hx hb hK hP cD hS 1 1 (n := 23) (a := b + 1) (xW_at (by omega) (va_up_self _ _ _)) rfl (by unfold vp_in; decide) d_MO_init_100 (fun H locs hP _ hS => ?_)
  rw [xW_up (lay := cB b) (i := 1), bx_uu] at hP
  refine lv_dup hx hb d_MO_init_101 rfl ?_
  refine lv_bipush (v := (14 : Int32)) hx hb d_MO_init_102 (by decide) ?_
  refine lv_ldc2 (v := (347 : Int64)) hx hb hown (hts _ wd_681) d_MO_init_104 ?_
  refine va_last hx hb hK hP cD hS 1 1 (n := 23) (a := b + 1) (xW_at (by omega) (va_up_self _ _ _)) rfl (by unfold vp_in; decide) d_MO_init_107 (fun H locs hP _ hS => ?_)
  rw [xW_up (lay := cB b) (i := 1), bx_uu] at hP
  refine lv_dup hx hb d_MO_init_108 rfl ?_
  refine lv_bipush (v := (15 : Int32)) hx hb d_MO_init_109 (by decide) ?_
  refine lv_ldc2 (v := (21332 : Int64)) hx hb hown (hts _ wd_682) d_MO_init_111 ?_
  refine va_last hx hb hK hP cD hS 1 1 (n := 23) (a := b + 1) (xW_at (by omega) (va_up_self _ _ _)) rfl (by unfold vp_in; decide) d_MO_init_114 (fun H locs hP _ hS => ?_)
  rw [xW_up (lay := cB b) (i := 1), bx_uu] at hP
  refine lv_dup hx hb d_MO_init_115 rfl ?_
  refine lv_bipush (v := (16 : Int32)) hx hb d_MO_init_116 (by decide) ?_
  refine lv_ldc2 (v := (381387657 : Int64)) hx hb hown (hts _ wd_683) d_MO_init_118 ?_
  refine va_last hx hb hK hP cD hS 1 1 (n := 23) (a := b + 1) (xW_at (by omega) (va_up_self _ _ _)) rfl (by unfold vp_in; decide) d_MO_init_121 (fun H locs hP _ hS => ?_)
  rw [xW_up (lay := cB b) (i := 1), bx_uu] at hP
  refine lv_dup hx hb d_MO_init_122 rfl ?_
  refine lv_bipush (v := (17 : Int32)) hx hb d_MO_init_123 (by decide) ?_
  refine lv_ldc2 (v := (8254533549 : Int64)) hx hb hown (hts _ wd_684) d_MO_init_125 ?_
  refine va_last hx hb hK hP cD hS 1 1 (n := 23) (a := b + 1) (xW_at (by omega) (va_up_self _ _ _)) rfl (by unfold vp_in; decide) d_MO_init_128 (fun H locs hP _ hS => ?_)
  rw [xW_up (lay := cB b) (i := 1), bx_uu] at hP
  refine lv_dup hx hb d_MO_init_129 rfl ?_
  refine lv_bipush (v := (18 : Int32)) hx hb d_MO_init_130 (by decide) ?_
  refine lv_ldc2 (v := (1807203470635 : Int64)) hx hb hown (hts _ wd_685) d_MO_init_132 ?_
  refine va_last hx hb hK hP cD hS 1 1 (n := 23) (a := b + 1) (xW_at (by omega) (va_up_self _ _ _)) rfl (by unfold vp_in; decide) d_MO_init_135 (fun H locs hP _ hS => ?_)
  rw [xW_up (lay := cB b) (i := 1), bx_uu] at hP
  refine lv_dup hx hb d_MO_init_136 rfl ?_
  refine lv_bipush (v := (19 : Int32)) hx hb d_MO_init_137 (by decide) ?_
  refine lv_ldc2 (v := (45084019414 : Int64)) hx hb hown (hts _ wd_686) d_MO_init_139 ?_
  refine va_last hx hb hK hP cD hS 1 1 (n := 23) (a := b + 1) (xW_at (by omega) (va_up_self _ _ _)) rfl (by unfold vp_in; decide) d_MO_init_142 (fun H locs hP _ hS => ?_)
  rw [xW_up (lay := cB b) (i := 1), bx_uu] at hP
  refine lv_dup hx hb d_MO_init_143 rfl ?_
  refine lv_bipush (v := (20 : Int32)) hx hb d_MO_init_144 (by decide) ?_
  refine lv_ldc2 (v := (17599292 : Int64)) hx hb hown (hts _ wd_687) d_MO_init_146 ?_
  refine va_last hx hb hK hP cD hS 1 1 (n := 23) (a := b + 1) (xW_at (by omega) (va_up_self _ _ _)) rfl (by unfold vp_in; decide) d_MO_init_149 (fun H locs hP _ hS => ?_)
  rw [xW_up (lay := cB b) (i := 1), bx_uu] at hP
  refine lv_dup hx hb d_MO_init_150 rfl ?_
  refine lv_bipush (v := (21 : Int32)) hx hb d_MO_init_151 (by decide) ?_
  refine lv_ldc2 (v := (1080552497 : Int64)) hx hb hown (hts _ wd_688) d_MO_init_153 ?_
  refine va_last hx hb hK hP cD hS 1 1 (n := 23) (a := b + 1) (xW_at (by omega) (va_up_self _ _ _)) rfl (by unfold vp_in; decide) d_MO_init_156 (fun H locs hP _ hS => ?_)
  rw [xW_up (lay := cB b) (i := 1), bx_uu] at hP
  refine lv_dup hx hb d_MO_init_157 rfl ?_
  refine lv_bipush (v := (22 : Int32)) hx hb d_MO_init_158 (by decide) ?_
  refine lv_ldc2 (v := (12158575 : Int64)) hx hb hown (hts _ wd_689) d_MO_init_160 ?_
  refine va_last hx hb hK hP cD hS 1 1 (n := 23) (a := b + 1) (xW_at (by omega) (va_up_self _ _ _)) rfl (by unfold vp_in; decide) d_MO_init_163 (fun H locs hP _ hS => ?_)
  rw [xW_up (lay := cB b) (i := 1), bx_uu] at hP
  have hP := xP_arrL (i := 1) (g' := fun j => mwords.getD j 0) hP (va_up_self _ _ _) (by decide +kernel)
  rw [bx_uu] at hP
  refine va_putF (v := .ref (b + 1)) (ty := .array .long) (C := R_MO) (T := F_MO) (N := 41) (a := b + 0) (ci := 6) (fs := [.int 0, .null, .null, .null, .null, .int 0, .int 0, .int 0, .int 0, .int 0, .long 0, .int 0, .int 0, .int 0, .int 0, .int 0, .null, .null, .null, .null, .null, .null, .null, .null, .null, .null, .null, .null, .null, .int 0, .int 0, .int 0, .int 0, .int 0, .null, .null, .null, .null, .null, .null, .null]) hx hb hts i_MO t_MO t_MO_ok n_MO hown hK hP cD hS 0 (xW_at (by omega) (by rw [va_up_ne _ _ (by omega), hf])) rfl 1 (by decide) (hts _ wd_701) (fun _ h9 => h9) rfl hin rfl (by decide +kernel) rfl rfl (Nat.le_of_ble_eq_true rfl) d_MO_init_164 (fun H locs hP _ hS => ?_)
  rw [xW_up (lay := cB b) (i := 0)] at hP
  have hP : va_P D xcl (xW 2 (cB b) (fun i => if i = 0 then .inr (6, [.int 0, .ref (b + 1), .null, .null, .null, .int 0, .int 0, .int 0, .int 0, .int 0, .long 0, .int 0, .int 0, .int 0, .int 0, .int 0, .null, .null, .null, .null, .null, .null, .null, .null, .null, .null, .null, .null, .null, .int 0, .int 0, .int 0, .int 0, .int 0, .null, .null, .null, .null, .null, .null, .null]) else mcell (cB b) cA i (M0.1 i) (M0.2 i))) H := cTo (n := 2) hP (fun i hi => by
    rcases (show i = 0 ∨ i = 1 by omega) with rfl | rfl
    · rw [va_up_self, if_pos rfl]; rfl
    · rw [va_up_ne _ _ (by omega), va_up_self, if_neg (by omega), mc_1]; rfl)
  refine lv_aload_n hx hb d_MO_init_167 rfl (lv_at hl 0 rfl) ?_
  refine lv_iconst (v := (4 : Int32)) hx hb d_MO_init_168 (by decide) ?_
  refine va_newa (atype := .long) (N' := 4) (a0 := (4, .inr (.inl (fun _ => 0)))) hx hb (hts _ wd_108) rfl hK hP cD hS hA (fun _ => rfl) (by decide) (by decide +kernel) (by decide) (by decide) (by decide) d_MO_init_169 (fun q c1 H hK1 hP hD hS => ?_)
  have e1 := tys_one hK1 1 rfl
  subst e1
  clear hK1
  refine W.size (fun hsz => ?_)
  have e1 := cNext hP hD (by omega)
  subst e1
  clear hD hsz
  rw [cPush] at hP
  refine lv_dup hx hb d_MO_init_171 rfl ?_
  refine lv_iconst (v := (0 : Int32)) hx hb d_MO_init_172 (by decide) ?_
  refine lv_ldc2 (v := (23946417994 : Int64)) hx hb hown (hts _ wd_690) d_MO_init_173 ?_
  refine va_last hx hb hK hP cD hS 2 1 (n := 4) (a := b + 2) (xW_at (by omega) (va_up_self _ _ _)) rfl (by unfold vp_in; decide) d_MO_init_176 (fun H locs hP _ hS => ?_)
  rw [xW_up (lay := cB b) (i := 2), bx_uu] at hP
  refine lv_dup hx hb d_MO_init_177 rfl ?_
  refine lv_iconst (v := (1 : Int32)) hx hb d_MO_init_178 (by decide) ?_
  refine lv_ldc2 (v := (911521961 : Int64)) hx hb hown (hts _ wd_668) d_MO_init_179 ?_
  refine va_last hx hb hK hP cD hS 2 1 (n := 4) (a := b + 2) (xW_at (by omega) (va_up_self _ _ _)) rfl (by unfold vp_in; decide) d_MO_init_182 (fun H locs hP _ hS => ?_)
  rw [xW_up (lay := cB b) (i := 2), bx_uu] at hP
  refine lv_dup hx hb d_MO_init_183 rfl ?_
  refine lv_iconst (v := (2 : Int32)) hx hb d_MO_init_184 (by decide) ?_
  refine lv_ldc2 (v := (609950 : Int64)) hx hb hown (hts _ wd_691) d_MO_init_185 ?_
  refine va_last hx hb hK hP cD hS 2 1 (n := 4) (a := b + 2) (xW_at (by omega) (va_up_self _ _ _)) rfl (by unfold vp_in; decide) d_MO_init_188 (fun H locs hP _ hS => ?_)
  rw [xW_up (lay := cB b) (i := 2), bx_uu] at hP
  refine lv_dup hx hb d_MO_init_189 rfl ?_
  refine lv_iconst (v := (3 : Int32)) hx hb d_MO_init_190 (by decide) ?_
  refine lv_ldc2 (v := (1250547464 : Int64)) hx hb hown (hts _ wd_692) d_MO_init_191 ?_
  refine va_last hx hb hK hP cD hS 2 1 (n := 4) (a := b + 2) (xW_at (by omega) (va_up_self _ _ _)) rfl (by unfold vp_in; decide) d_MO_init_194 (fun H locs hP _ hS => ?_)
  rw [xW_up (lay := cB b) (i := 2), bx_uu] at hP
  have hP := xP_arrL (i := 2) (g' := fun j => mkinds.getD j 0) hP (va_up_self _ _ _) (by decide +kernel)
  rw [bx_uu] at hP
  refine va_putF (v := .ref (b + 2)) (ty := .array .long) (C := R_MO) (T := F_MO) (N := 41) (a := b + 0) (ci := 6) (fs := [.int 0, .ref (b + 1), .null, .null, .null, .int 0, .int 0, .int 0, .int 0, .int 0, .long 0, .int 0, .int 0, .int 0, .int 0, .int 0, .null, .null, .null, .null, .null, .null, .null, .null, .null, .null, .null, .null, .null, .int 0, .int 0, .int 0, .int 0, .int 0, .null, .null, .null, .null, .null, .null, .null]) hx hb hts i_MO t_MO t_MO_ok n_MO hown hK hP cD hS 0 (xW_at (by omega) (by rw [va_up_ne _ _ (by omega), if_pos rfl])) rfl 2 (by decide) (hts _ wd_702) (fun _ h9 => h9) rfl hin rfl (by decide +kernel) rfl rfl (Nat.le_of_ble_eq_true rfl) d_MO_init_195 (fun H locs hP _ hS => ?_)
  rw [xW_up (lay := cB b) (i := 0)] at hP
  have hP : va_P D xcl (xW 3 (cB b) (fun i => if i = 0 then .inr (6, [.int 0, .ref (b + 1), .ref (b + 2), .null, .null, .int 0, .int 0, .int 0, .int 0, .int 0, .long 0, .int 0, .int 0, .int 0, .int 0, .int 0, .null, .null, .null, .null, .null, .null, .null, .null, .null, .null, .null, .null, .null, .int 0, .int 0, .int 0, .int 0, .int 0, .null, .null, .null, .null, .null, .null, .null]) else mcell (cB b) cA i (M0.1 i) (M0.2 i))) H := cTo (n := 3) hP (fun i hi => by
    by_cases h1 : i = 0
    · subst h1; rw [va_up_self, if_pos rfl]; rfl
    · rw [va_up_ne _ _ h1, if_neg h1]
      by_cases h2 : i = 2
      · subst h2; rw [va_up_self, mc_2]; rfl
      · rw [va_up_ne _ _ h2, if_neg h1])
  refine lv_aload_n hx hb d_MO_init_198 rfl (lv_at hl 0 rfl) ?_
  refine lv_bipush (v := (7 : Int32)) hx hb d_MO_init_199 (by decide) ?_
  refine va_newa (atype := .long) (N' := 7) (a0 := (7, .inr (.inl (fun _ => 0)))) hx hb (hts _ wd_108) rfl hK hP cD hS hA (fun _ => rfl) (by decide) (by decide +kernel) (by decide) (by decide) (by decide) d_MO_init_201 (fun q c1 H hK1 hP hD hS => ?_)
  have e1 := tys_one hK1 1 rfl
  subst e1
  clear hK1
  refine W.size (fun hsz => ?_)
  have e1 := cNext hP hD (by omega)
  subst e1
  clear hD hsz
  rw [cPush] at hP
  refine lv_dup hx hb d_MO_init_203 rfl ?_
  refine lv_iconst (v := (0 : Int32)) hx hb d_MO_init_204 (by decide) ?_
  refine lv_ldc2 (v := (977815 : Int64)) hx hb hown (hts _ wd_693) d_MO_init_205 ?_
  refine va_last hx hb hK hP cD hS 3 1 (n := 7) (a := b + 3) (xW_at (by omega) (va_up_self _ _ _)) rfl (by unfold vp_in; decide) d_MO_init_208 (fun H locs hP _ hS => ?_)
  rw [xW_up (lay := cB b) (i := 3), bx_uu] at hP
  refine lv_dup hx hb d_MO_init_209 rfl ?_
  refine lv_iconst (v := (1 : Int32)) hx hb d_MO_init_210 (by decide) ?_
  refine lv_ldc2 (v := (990358 : Int64)) hx hb hown (hts _ wd_694) d_MO_init_211 ?_
  refine va_last hx hb hK hP cD hS 3 1 (n := 7) (a := b + 3) (xW_at (by omega) (va_up_self _ _ _)) rfl (by unfold vp_in; decide) d_MO_init_214 (fun H locs hP _ hS => ?_)
  rw [xW_up (lay := cB b) (i := 3), bx_uu] at hP
  refine lv_dup hx hb d_MO_init_215 rfl ?_
  refine lv_iconst (v := (2 : Int32)) hx hb d_MO_init_216 (by decide) ?_
  refine lv_ldc2 (v := (2230448 : Int64)) hx hb hown (hts _ wd_695) d_MO_init_217 ?_
  refine va_last hx hb hK hP cD hS 3 1 (n := 7) (a := b + 3) (xW_at (by omega) (va_up_self _ _ _)) rfl (by unfold vp_in; decide) d_MO_init_220 (fun H locs hP _ hS => ?_)
  rw [xW_up (lay := cB b) (i := 3), bx_uu] at hP
  refine lv_dup hx hb d_MO_init_221 rfl ?_
  refine lv_iconst (v := (3 : Int32)) hx hb d_MO_init_222 (by decide) ?_
  refine lv_ldc2 (v := (1167067 : Int64)) hx hb hown (hts _ wd_696) d_MO_init_223 ?_
  refine va_last hx hb hK hP cD hS 3 1 (n := 7) (a := b + 3) (xW_at (by omega) (va_up_self _ _ _)) rfl (by unfold vp_in; decide) d_MO_init_226 (fun H locs hP _ hS => ?_)
  rw [xW_up (lay := cB b) (i := 3), bx_uu] at hP
  refine lv_dup hx hb d_MO_init_227 rfl ?_
  refine lv_iconst (v := (4 : Int32)) hx hb d_MO_init_228 (by decide) ?_
  refine lv_ldc2 (v := (172942 : Int64)) hx hb hown (hts _ wd_697) d_MO_init_229 ?_
  refine va_last hx hb hK hP cD hS 3 1 (n := 7) (a := b + 3) (xW_at (by omega) (va_up_self _ _ _)) rfl (by unfold vp_in; decide) d_MO_init_232 (fun H locs hP _ hS => ?_)
  rw [xW_up (lay := cB b) (i := 3), bx_uu] at hP
  refine lv_dup hx hb d_MO_init_233 rfl ?_
  refine lv_iconst (v := (5 : Int32)) hx hb d_MO_init_234 (by decide) ?_
  refine lv_ldc2 (v := (461802 : Int64)) hx hb hown (hts _ wd_698) d_MO_init_235 ?_
  refine va_last hx hb hK hP cD hS 3 1 (n := 7) (a := b + 3) (xW_at (by omega) (va_up_self _ _ _)) rfl (by unfold vp_in; decide) d_MO_init_238 (fun H locs hP _ hS => ?_)
  rw [xW_up (lay := cB b) (i := 3), bx_uu] at hP
  refine lv_dup hx hb d_MO_init_239 rfl ?_
  refine lv_bipush (v := (6 : Int32)) hx hb d_MO_init_240 (by decide) ?_
  refine lv_ldc2 (v := (557340884 : Int64)) hx hb hown (hts _ wd_699) d_MO_init_242 ?_
  refine va_last hx hb hK hP cD hS 3 1 (n := 7) (a := b + 3) (xW_at (by omega) (va_up_self _ _ _)) rfl (by unfold vp_in; decide) d_MO_init_245 (fun H locs hP _ hS => ?_)
  rw [xW_up (lay := cB b) (i := 3), bx_uu] at hP
  have hP := xP_arrL (i := 3) (g' := fun j => mactions.getD j 0) hP (va_up_self _ _ _) (by decide +kernel)
  rw [bx_uu] at hP
  refine va_putF (v := .ref (b + 3)) (ty := .array .long) (C := R_MO) (T := F_MO) (N := 41) (a := b + 0) (ci := 6) (fs := [.int 0, .ref (b + 1), .ref (b + 2), .null, .null, .int 0, .int 0, .int 0, .int 0, .int 0, .long 0, .int 0, .int 0, .int 0, .int 0, .int 0, .null, .null, .null, .null, .null, .null, .null, .null, .null, .null, .null, .null, .null, .int 0, .int 0, .int 0, .int 0, .int 0, .null, .null, .null, .null, .null, .null, .null]) hx hb hts i_MO t_MO t_MO_ok n_MO hown hK hP cD hS 0 (xW_at (by omega) (by rw [va_up_ne _ _ (by omega), if_pos rfl])) rfl 3 (by decide) (hts _ wd_703) (fun _ h9 => h9) rfl hin rfl (by decide +kernel) rfl rfl (Nat.le_of_ble_eq_true rfl) d_MO_init_246 (fun H locs hP _ hS => ?_)
  rw [xW_up (lay := cB b) (i := 0)] at hP
  have hP : va_P D xcl (xW 4 (cB b) (fun i => if i = 0 then .inr (6, [.int 0, .ref (b + 1), .ref (b + 2), .ref (b + 3), .null, .int 0, .int 0, .int 0, .int 0, .int 0, .long 0, .int 0, .int 0, .int 0, .int 0, .int 0, .null, .null, .null, .null, .null, .null, .null, .null, .null, .null, .null, .null, .null, .int 0, .int 0, .int 0, .int 0, .int 0, .null, .null, .null, .null, .null, .null, .null]) else mcell (cB b) cA i (M0.1 i) (M0.2 i))) H := cTo (n := 4) hP (fun i hi => by
    by_cases h1 : i = 0
    · subst h1; rw [va_up_self, if_pos rfl]; rfl
    · rw [va_up_ne _ _ h1, if_neg h1]
      by_cases h2 : i = 3
      · subst h2; rw [va_up_self, mc_3]; rfl
      · rw [va_up_ne _ _ h2, if_neg h1])
  refine lv_aload_n hx hb d_MO_init_249 rfl (lv_at hl 0 rfl) ?_
  refine lv_sipush (v := (2000 : Int32)) hx hb d_MO_init_250 (by decide) ?_
  refine va_newa (atype := .byte) (N' := 2000) (a0 := (2000, .inl (fun _ => 0))) hx hb (hts _ wd_63) rfl hK hP cD hS hA (fun _ => rfl) (by decide) (by decide +kernel) (by decide) (by decide) (by decide) d_MO_init_253 (fun q c1 H hK1 hP hD hS => ?_)
  have e1 := tys_one hK1 0 rfl
  subst e1
  clear hK1
  refine W.size (fun hsz => ?_)
  have e1 := cNext hP hD (by omega)
  subst e1
  clear hD hsz
  rw [cPush] at hP
  refine va_putF (v := .ref (b + 4)) (ty := .array .byte) (C := R_MO) (T := F_MO) (N := 41) (a := b + 0) (ci := 6) (fs := [.int 0, .ref (b + 1), .ref (b + 2), .ref (b + 3), .null, .int 0, .int 0, .int 0, .int 0, .int 0, .long 0, .int 0, .int 0, .int 0, .int 0, .int 0, .null, .null, .null, .null, .null, .null, .null, .null, .null, .null, .null, .null, .null, .int 0, .int 0, .int 0, .int 0, .int 0, .null, .null, .null, .null, .null, .null, .null]) hx hb hts i_MO t_MO t_MO_ok n_MO hown hK hP cD hS 0 (xW_at (by omega) (by rw [va_up_ne _ _ (by omega), if_pos rfl])) rfl 4 (by decide) (hts _ wd_704) (fun _ h9 => h9) rfl hin rfl (by decide +kernel) rfl rfl (Nat.le_of_ble_eq_true rfl) d_MO_init_255 (fun H locs hP _ hS => ?_)
  rw [xW_up (lay := cB b) (i := 0)] at hP
  have hP : va_P D xcl (xW 5 (cB b) (fun i => if i = 0 then .inr (6, [.int 0, .ref (b + 1), .ref (b + 2), .ref (b + 3), .ref (b + 4), .int 0, .int 0, .int 0, .int 0, .int 0, .long 0, .int 0, .int 0, .int 0, .int 0, .int 0, .null, .null, .null, .null, .null, .null, .null, .null, .null, .null, .null, .null, .null, .int 0, .int 0, .int 0, .int 0, .int 0, .null, .null, .null, .null, .null, .null, .null]) else mcell (cB b) cA i (M0.1 i) (M0.2 i))) H := cTo (n := 5) hP (fun i hi => by
    by_cases h1 : i = 0
    · subst h1; rw [va_up_self, if_pos rfl]; rfl
    · rw [va_up_ne _ _ h1, if_neg h1]
      by_cases h2 : i = 4
      · subst h2; rw [va_up_self, mc_4]; rw [(by funext q; simp [M0] : M0.1 4 = fun _ => 0)]
      · rw [va_up_ne _ _ h2, if_neg h1])
  refine lv_aload_n hx hb d_MO_init_258 rfl (lv_at hl 0 rfl) ?_
  refine lv_iconst (v := (-1 : Int32)) hx hb d_MO_init_259 (by decide) ?_
  refine va_put (v := .int (-1)) (ty := .int) (C := R_MO) (T := F_MO) (N := 41) (a := b + 0) (ci := 6) (fs := [.int 0, .ref (b + 1), .ref (b + 2), .ref (b + 3), .ref (b + 4), .int 0, .int 0, .int 0, .int 0, .int 0, .long 0, .int 0, .int 0, .int 0, .int 0, .int 0, .null, .null, .null, .null, .null, .null, .null, .null, .null, .null, .null, .null, .null, .int 0, .int 0, .int 0, .int 0, .int 0, .null, .null, .null, .null, .null, .null, .null]) hx hb hts i_MO t_MO t_MO_ok n_MO hown hK hP cD hS 0 (xW_at (by omega) (by rw [if_pos rfl])) rfl 12 (by decide) (hts _ wd_712) (fun _ h9 => h9) rfl (by decide +kernel) rfl rfl (Nat.le_of_ble_eq_true rfl) d_MO_init_260 (fun H locs hP _ hS => ?_)
  rw [xW_up (lay := cB b) (i := 0)] at hP
  have hP : va_P D xcl (xW 5 (cB b) (fun i => if i = 0 then .inr (6, [.int 0, .ref (b + 1), .ref (b + 2), .ref (b + 3), .ref (b + 4), .int 0, .int 0, .int 0, .int 0, .int 0, .long 0, .int 0, .int (-1), .int 0, .int 0, .int 0, .null, .null, .null, .null, .null, .null, .null, .null, .null, .null, .null, .null, .null, .int 0, .int 0, .int 0, .int 0, .int 0, .null, .null, .null, .null, .null, .null, .null]) else mcell (cB b) cA i (M0.1 i) (M0.2 i))) H := cTo (n := 5) hP (fun i hi => by
    by_cases h1 : i = 0
    · subst h1; rw [va_up_self, if_pos rfl]; rfl
    · rw [va_up_ne _ _ h1, if_neg h1, if_neg h1])
  refine lv_aload_n hx hb d_MO_init_263 rfl (lv_at hl 0 rfl) ?_
  refine lv_iconst (v := (-1 : Int32)) hx hb d_MO_init_264 (by decide) ?_
  refine va_put (v := .int (-1)) (ty := .int) (C := R_MO) (T := F_MO) (N := 41) (a := b + 0) (ci := 6) (fs := [.int 0, .ref (b + 1), .ref (b + 2), .ref (b + 3), .ref (b + 4), .int 0, .int 0, .int 0, .int 0, .int 0, .long 0, .int 0, .int (-1), .int 0, .int 0, .int 0, .null, .null, .null, .null, .null, .null, .null, .null, .null, .null, .null, .null, .null, .int 0, .int 0, .int 0, .int 0, .int 0, .null, .null, .null, .null, .null, .null, .null]) hx hb hts i_MO t_MO t_MO_ok n_MO hown hK hP cD hS 0 (xW_at (by omega) (by rw [if_pos rfl])) rfl 14 (by decide) (hts _ wd_714) (fun _ h9 => h9) rfl (by decide +kernel) rfl rfl (Nat.le_of_ble_eq_true rfl) d_MO_init_265 (fun H locs hP _ hS => ?_)
  rw [xW_up (lay := cB b) (i := 0)] at hP
  have hP : va_P D xcl (xW 5 (cB b) (fun i => if i = 0 then .inr (6, [.int 0, .ref (b + 1), .ref (b + 2), .ref (b + 3), .ref (b + 4), .int 0, .int 0, .int 0, .int 0, .int 0, .long 0, .int 0, .int (-1), .int 0, .int (-1), .int 0, .null, .null, .null, .null, .null, .null, .null, .null, .null, .null, .null, .null, .null, .int 0, .int 0, .int 0, .int 0, .int 0, .null, .null, .null, .null, .null, .null, .null]) else mcell (cB b) cA i (M0.1 i) (M0.2 i))) H := cTo (n := 5) hP (fun i hi => by
    by_cases h1 : i = 0
    · subst h1; rw [va_up_self, if_pos rfl]; rfl
    · rw [va_up_ne _ _ h1, if_neg h1, if_neg h1])
  refine lv_aload_n hx hb d_MO_init_268 rfl (lv_at hl 0 rfl) ?_
  refine lv_bipush (v := (8 : Int32)) hx hb d_MO_init_269 (by decide) ?_
  refine va_newa (atype := .long) (N' := 8) (a0 := (8, .inr (.inl (fun _ => 0)))) hx hb (hts _ wd_108) rfl hK hP cD hS hA (fun _ => rfl) (by decide) (by decide +kernel) (by decide) (by decide) (by decide) d_MO_init_271 (fun q c1 H hK1 hP hD hS => ?_)
  have e1 := tys_one hK1 1 rfl
  subst e1
  clear hK1
  refine W.size (fun hsz => ?_)
  have e1 := cNext hP hD (by omega)
  subst e1
  clear hD hsz
  rw [cPush] at hP
  refine va_putF (v := .ref (b + 5)) (ty := .array .long) (C := R_MO) (T := F_MO) (N := 41) (a := b + 0) (ci := 6) (fs := [.int 0, .ref (b + 1), .ref (b + 2), .ref (b + 3), .ref (b + 4), .int 0, .int 0, .int 0, .int 0, .int 0, .long 0, .int 0, .int (-1), .int 0, .int (-1), .int 0, .null, .null, .null, .null, .null, .null, .null, .null, .null, .null, .null, .null, .null, .int 0, .int 0, .int 0, .int 0, .int 0, .null, .null, .null, .null, .null, .null, .null]) hx hb hts i_MO t_MO t_MO_ok n_MO hown hK hP cD hS 0 (xW_at (by omega) (by rw [va_up_ne _ _ (by omega), if_pos rfl])) rfl 16 (by decide) (hts _ wd_716) (fun _ h9 => h9) rfl hin rfl (by decide +kernel) rfl rfl (Nat.le_of_ble_eq_true rfl) d_MO_init_273 (fun H locs hP _ hS => ?_)
  rw [xW_up (lay := cB b) (i := 0)] at hP
  have hP : va_P D xcl (xW 6 (cB b) (fun i => if i = 0 then .inr (6, [.int 0, .ref (b + 1), .ref (b + 2), .ref (b + 3), .ref (b + 4), .int 0, .int 0, .int 0, .int 0, .int 0, .long 0, .int 0, .int (-1), .int 0, .int (-1), .int 0, .ref (b + 5), .null, .null, .null, .null, .null, .null, .null, .null, .null, .null, .null, .null, .int 0, .int 0, .int 0, .int 0, .int 0, .null, .null, .null, .null, .null, .null, .null]) else mcell (cB b) cA i (M0.1 i) (M0.2 i))) H := cTo (n := 6) hP (fun i hi => by
    by_cases h1 : i = 0
    · subst h1; rw [va_up_self, if_pos rfl]; rfl
    · rw [va_up_ne _ _ h1, if_neg h1]
      by_cases h2 : i = 5
      · subst h2; rw [va_up_self, mc_5]; rw [(by funext q; simp [M0] : M0.2 5 = fun _ => 0)]
      · rw [va_up_ne _ _ h2, if_neg h1])
  refine lv_aload_n hx hb d_MO_init_276 rfl (lv_at hl 0 rfl) ?_
  refine lv_bipush (v := (8 : Int32)) hx hb d_MO_init_277 (by decide) ?_
  refine va_newa (atype := .int) (N' := 8) (a0 := (8, .inl (fun _ => 0))) hx hb (hts _ wd_107) rfl hK hP cD hS hA (fun _ => rfl) (by decide) (by decide +kernel) (by decide) (by decide) (by decide) d_MO_init_279 (fun q c1 H hK1 hP hD hS => ?_)
  have e1 := tys_one hK1 2 rfl
  subst e1
  clear hK1
  refine W.size (fun hsz => ?_)
  have e1 := cNext hP hD (by omega)
  subst e1
  clear hD hsz
  rw [cPush] at hP
  refine va_putF (v := .ref (b + 6)) (ty := .array .int) (C := R_MO) (T := F_MO) (N := 41) (a := b + 0) (ci := 6) (fs := [.int 0, .ref (b + 1), .ref (b + 2), .ref (b + 3), .ref (b + 4), .int 0, .int 0, .int 0, .int 0, .int 0, .long 0, .int 0, .int (-1), .int 0, .int (-1), .int 0, .ref (b + 5), .null, .null, .null, .null, .null, .null, .null, .null, .null, .null, .null, .null, .int 0, .int 0, .int 0, .int 0, .int 0, .null, .null, .null, .null, .null, .null, .null]) hx hb hts i_MO t_MO t_MO_ok n_MO hown hK hP cD hS 0 (xW_at (by omega) (by rw [va_up_ne _ _ (by omega), if_pos rfl])) rfl 17 (by decide) (hts _ wd_717) (fun _ h9 => h9) rfl hin rfl (by decide +kernel) rfl rfl (Nat.le_of_ble_eq_true rfl) d_MO_init_281 (fun H locs hP _ hS => ?_)
  rw [xW_up (lay := cB b) (i := 0)] at hP
  have hP : va_P D xcl (xW 7 (cB b) (fun i => if i = 0 then .inr (6, [.int 0, .ref (b + 1), .ref (b + 2), .ref (b + 3), .ref (b + 4), .int 0, .int 0, .int 0, .int 0, .int 0, .long 0, .int 0, .int (-1), .int 0, .int (-1), .int 0, .ref (b + 5), .ref (b + 6), .null, .null, .null, .null, .null, .null, .null, .null, .null, .null, .null, .int 0, .int 0, .int 0, .int 0, .int 0, .null, .null, .null, .null, .null, .null, .null]) else mcell (cB b) cA i (M0.1 i) (M0.2 i))) H := cTo (n := 7) hP (fun i hi => by
    by_cases h1 : i = 0
    · subst h1; rw [va_up_self, if_pos rfl]; rfl
    · rw [va_up_ne _ _ h1, if_neg h1]
      by_cases h2 : i = 6
      · subst h2; rw [va_up_self, mc_6]; rw [(by funext q; simp [M0] : M0.1 6 = fun _ => 0)]
      · rw [va_up_ne _ _ h2, if_neg h1])
  refine lv_aload_n hx hb d_MO_init_284 rfl (lv_at hl 0 rfl) ?_
  refine lv_bipush (v := (8 : Int32)) hx hb d_MO_init_285 (by decide) ?_
  refine va_newa (atype := .int) (N' := 8) (a0 := (8, .inl (fun _ => 0))) hx hb (hts _ wd_107) rfl hK hP cD hS hA (fun _ => rfl) (by decide) (by decide +kernel) (by decide) (by decide) (by decide) d_MO_init_287 (fun q c1 H hK1 hP hD hS => ?_)
  have e1 := tys_one hK1 2 rfl
  subst e1
  clear hK1
  refine W.size (fun hsz => ?_)
  have e1 := cNext hP hD (by omega)
  subst e1
  clear hD hsz
  rw [cPush] at hP
  refine va_putF (v := .ref (b + 7)) (ty := .array .int) (C := R_MO) (T := F_MO) (N := 41) (a := b + 0) (ci := 6) (fs := [.int 0, .ref (b + 1), .ref (b + 2), .ref (b + 3), .ref (b + 4), .int 0, .int 0, .int 0, .int 0, .int 0, .long 0, .int 0, .int (-1), .int 0, .int (-1), .int 0, .ref (b + 5), .ref (b + 6), .null, .null, .null, .null, .null, .null, .null, .null, .null, .null, .null, .int 0, .int 0, .int 0, .int 0, .int 0, .null, .null, .null, .null, .null, .null, .null]) hx hb hts i_MO t_MO t_MO_ok n_MO hown hK hP cD hS 0 (xW_at (by omega) (by rw [va_up_ne _ _ (by omega), if_pos rfl])) rfl 18 (by decide) (hts _ wd_718) (fun _ h9 => h9) rfl hin rfl (by decide +kernel) rfl rfl (Nat.le_of_ble_eq_true rfl) d_MO_init_289 (fun H locs hP _ hS => ?_)
  rw [xW_up (lay := cB b) (i := 0)] at hP
  have hP : va_P D xcl (xW 8 (cB b) (fun i => if i = 0 then .inr (6, [.int 0, .ref (b + 1), .ref (b + 2), .ref (b + 3), .ref (b + 4), .int 0, .int 0, .int 0, .int 0, .int 0, .long 0, .int 0, .int (-1), .int 0, .int (-1), .int 0, .ref (b + 5), .ref (b + 6), .ref (b + 7), .null, .null, .null, .null, .null, .null, .null, .null, .null, .null, .int 0, .int 0, .int 0, .int 0, .int 0, .null, .null, .null, .null, .null, .null, .null]) else mcell (cB b) cA i (M0.1 i) (M0.2 i))) H := cTo (n := 8) hP (fun i hi => by
    by_cases h1 : i = 0
    · subst h1; rw [va_up_self, if_pos rfl]; rfl
    · rw [va_up_ne _ _ h1, if_neg h1]
      by_cases h2 : i = 7
      · subst h2; rw [va_up_self, mc_7]; rw [(by funext q; simp [M0] : M0.1 7 = fun _ => 0)]
      · rw [va_up_ne _ _ h2, if_neg h1])
  refine lv_aload_n hx hb d_MO_init_292 rfl (lv_at hl 0 rfl) ?_
  refine lv_bipush (v := (8 : Int32)) hx hb d_MO_init_293 (by decide) ?_
  refine va_newa (atype := .int) (N' := 8) (a0 := (8, .inl (fun _ => 0))) hx hb (hts _ wd_107) rfl hK hP cD hS hA (fun _ => rfl) (by decide) (by decide +kernel) (by decide) (by decide) (by decide) d_MO_init_295 (fun q c1 H hK1 hP hD hS => ?_)
  have e1 := tys_one hK1 2 rfl
  subst e1
  clear hK1
  refine W.size (fun hsz => ?_)
  have e1 := cNext hP hD (by omega)
  subst e1
  clear hD hsz
  rw [cPush] at hP
  refine va_putF (v := .ref (b + 8)) (ty := .array .int) (C := R_MO) (T := F_MO) (N := 41) (a := b + 0) (ci := 6) (fs := [.int 0, .ref (b + 1), .ref (b + 2), .ref (b + 3), .ref (b + 4), .int 0, .int 0, .int 0, .int 0, .int 0, .long 0, .int 0, .int (-1), .int 0, .int (-1), .int 0, .ref (b + 5), .ref (b + 6), .ref (b + 7), .null, .null, .null, .null, .null, .null, .null, .null, .null, .null, .int 0, .int 0, .int 0, .int 0, .int 0, .null, .null, .null, .null, .null, .null, .null]) hx hb hts i_MO t_MO t_MO_ok n_MO hown hK hP cD hS 0 (xW_at (by omega) (by rw [va_up_ne _ _ (by omega), if_pos rfl])) rfl 19 (by decide) (hts _ wd_719) (fun _ h9 => h9) rfl hin rfl (by decide +kernel) rfl rfl (Nat.le_of_ble_eq_true rfl) d_MO_init_297 (fun H locs hP _ hS => ?_)
  rw [xW_up (lay := cB b) (i := 0)] at hP
  have hP : va_P D xcl (xW 9 (cB b) (fun i => if i = 0 then .inr (6, [.int 0, .ref (b + 1), .ref (b + 2), .ref (b + 3), .ref (b + 4), .int 0, .int 0, .int 0, .int 0, .int 0, .long 0, .int 0, .int (-1), .int 0, .int (-1), .int 0, .ref (b + 5), .ref (b + 6), .ref (b + 7), .ref (b + 8), .null, .null, .null, .null, .null, .null, .null, .null, .null, .int 0, .int 0, .int 0, .int 0, .int 0, .null, .null, .null, .null, .null, .null, .null]) else mcell (cB b) cA i (M0.1 i) (M0.2 i))) H := cTo (n := 9) hP (fun i hi => by
    by_cases h1 : i = 0
    · subst h1; rw [va_up_self, if_pos rfl]; rfl
    · rw [va_up_ne _ _ h1, if_neg h1]
      by_cases h2 : i = 8
      · subst h2; rw [va_up_self, mc_8]; rw [(by funext q; simp [M0] : M0.1 8 = fun _ => 0)]
      · rw [va_up_ne _ _ h2, if_neg h1])
  refine lv_aload_n hx hb d_MO_init_300 rfl (lv_at hl 0 rfl) ?_
  refine lv_bipush (v := (32 : Int32)) hx hb d_MO_init_301 (by decide) ?_
  refine va_newa (atype := .int) (N' := 32) (a0 := (32, .inl (fun _ => 0))) hx hb (hts _ wd_107) rfl hK hP cD hS hA (fun _ => rfl) (by decide) (by decide +kernel) (by decide) (by decide) (by decide) d_MO_init_303 (fun q c1 H hK1 hP hD hS => ?_)
  have e1 := tys_one hK1 2 rfl
  subst e1
  clear hK1
  refine W.size (fun hsz => ?_)
  have e1 := cNext hP hD (by omega)
  subst e1
  clear hD hsz
  rw [cPush] at hP
  refine va_putF (v := .ref (b + 9)) (ty := .array .int) (C := R_MO) (T := F_MO) (N := 41) (a := b + 0) (ci := 6) (fs := [.int 0, .ref (b + 1), .ref (b + 2), .ref (b + 3), .ref (b + 4), .int 0, .int 0, .int 0, .int 0, .int 0, .long 0, .int 0, .int (-1), .int 0, .int (-1), .int 0, .ref (b + 5), .ref (b + 6), .ref (b + 7), .ref (b + 8), .null, .null, .null, .null, .null, .null, .null, .null, .null, .int 0, .int 0, .int 0, .int 0, .int 0, .null, .null, .null, .null, .null, .null, .null]) hx hb hts i_MO t_MO t_MO_ok n_MO hown hK hP cD hS 0 (xW_at (by omega) (by rw [va_up_ne _ _ (by omega), if_pos rfl])) rfl 20 (by decide) (hts _ wd_720) (fun _ h9 => h9) rfl hin rfl (by decide +kernel) rfl rfl (Nat.le_of_ble_eq_true rfl) d_MO_init_305 (fun H locs hP _ hS => ?_)
  rw [xW_up (lay := cB b) (i := 0)] at hP
  have hP : va_P D xcl (xW 10 (cB b) (fun i => if i = 0 then .inr (6, [.int 0, .ref (b + 1), .ref (b + 2), .ref (b + 3), .ref (b + 4), .int 0, .int 0, .int 0, .int 0, .int 0, .long 0, .int 0, .int (-1), .int 0, .int (-1), .int 0, .ref (b + 5), .ref (b + 6), .ref (b + 7), .ref (b + 8), .ref (b + 9), .null, .null, .null, .null, .null, .null, .null, .null, .int 0, .int 0, .int 0, .int 0, .int 0, .null, .null, .null, .null, .null, .null, .null]) else mcell (cB b) cA i (M0.1 i) (M0.2 i))) H := cTo (n := 10) hP (fun i hi => by
    by_cases h1 : i = 0
    · subst h1; rw [va_up_self, if_pos rfl]; rfl
    · rw [va_up_ne _ _ h1, if_neg h1]
      by_cases h2 : i = 9
      · subst h2; rw [va_up_self, mc_9]; rw [(by funext q; simp [M0] : M0.1 9 = fun _ => 0)]
      · rw [va_up_ne _ _ h2, if_neg h1])
  refine lv_aload_n hx hb d_MO_init_308 rfl (lv_at hl 0 rfl) ?_
  refine lv_bipush (v := (48 : Int32)) hx hb d_MO_init_309 (by decide) ?_
  refine va_newa (atype := .int) (N' := 48) (a0 := (48, .inl (fun _ => 0))) hx hb (hts _ wd_107) rfl hK hP cD hS hA (fun _ => rfl) (by decide) (by decide +kernel) (by decide) (by decide) (by decide) d_MO_init_311 (fun q c1 H hK1 hP hD hS => ?_)
  have e1 := tys_one hK1 2 rfl
  subst e1
  clear hK1
  refine W.size (fun hsz => ?_)
  have e1 := cNext hP hD (by omega)
  subst e1
  clear hD hsz
  rw [cPush] at hP
  refine va_putF (v := .ref (b + 10)) (ty := .array .int) (C := R_MO) (T := F_MO) (N := 41) (a := b + 0) (ci := 6) (fs := [.int 0, .ref (b + 1), .ref (b + 2), .ref (b + 3), .ref (b + 4), .int 0, .int 0, .int 0, .int 0, .int 0, .long 0, .int 0, .int (-1), .int 0, .int (-1), .int 0, .ref (b + 5), .ref (b + 6), .ref (b + 7), .ref (b + 8), .ref (b + 9), .null, .null, .null, .null, .null, .null, .null, .null, .int 0, .int 0, .int 0, .int 0, .int 0, .null, .null, .null, .null, .null, .null, .null]) hx hb hts i_MO t_MO t_MO_ok n_MO hown hK hP cD hS 0 (xW_at (by omega) (by rw [va_up_ne _ _ (by omega), if_pos rfl])) rfl 21 (by decide) (hts _ wd_721) (fun _ h9 => h9) rfl hin rfl (by decide +kernel) rfl rfl (Nat.le_of_ble_eq_true rfl) d_MO_init_313 (fun H locs hP _ hS => ?_)
  rw [xW_up (lay := cB b) (i := 0)] at hP
  have hP : va_P D xcl (xW 11 (cB b) (fun i => if i = 0 then .inr (6, [.int 0, .ref (b + 1), .ref (b + 2), .ref (b + 3), .ref (b + 4), .int 0, .int 0, .int 0, .int 0, .int 0, .long 0, .int 0, .int (-1), .int 0, .int (-1), .int 0, .ref (b + 5), .ref (b + 6), .ref (b + 7), .ref (b + 8), .ref (b + 9), .ref (b + 10), .null, .null, .null, .null, .null, .null, .null, .int 0, .int 0, .int 0, .int 0, .int 0, .null, .null, .null, .null, .null, .null, .null]) else mcell (cB b) cA i (M0.1 i) (M0.2 i))) H := cTo (n := 11) hP (fun i hi => by
    by_cases h1 : i = 0
    · subst h1; rw [va_up_self, if_pos rfl]; rfl
    · rw [va_up_ne _ _ h1, if_neg h1]
      by_cases h2 : i = 10
      · subst h2; rw [va_up_self, mc_10]; rw [(by funext q; simp [M0] : M0.1 10 = fun _ => 0)]
      · rw [va_up_ne _ _ h2, if_neg h1])
  refine lv_aload_n hx hb d_MO_init_316 rfl (lv_at hl 0 rfl) ?_
  refine lv_bipush (v := (8 : Int32)) hx hb d_MO_init_317 (by decide) ?_
  refine va_newa (atype := .boolean) (N' := 8) (a0 := (8, .inl (fun _ => 0))) hx hb (hts _ wd_824) rfl hK hP cD hS hA (fun _ => rfl) (by decide) (by decide +kernel) (by decide) (by decide) (by decide) d_MO_init_319 (fun q c1 H hK1 hP hD hS => ?_)
  have e1 := tys_one hK1 3 rfl
  subst e1
  clear hK1
  refine W.size (fun hsz => ?_)
  have e1 := cNext hP hD (by omega)
  subst e1
  clear hD hsz
  rw [cPush] at hP
  refine va_putF (v := .ref (b + 11)) (ty := .array .boolean) (C := R_MO) (T := F_MO) (N := 41) (a := b + 0) (ci := 6) (fs := [.int 0, .ref (b + 1), .ref (b + 2), .ref (b + 3), .ref (b + 4), .int 0, .int 0, .int 0, .int 0, .int 0, .long 0, .int 0, .int (-1), .int 0, .int (-1), .int 0, .ref (b + 5), .ref (b + 6), .ref (b + 7), .ref (b + 8), .ref (b + 9), .ref (b + 10), .null, .null, .null, .null, .null, .null, .null, .int 0, .int 0, .int 0, .int 0, .int 0, .null, .null, .null, .null, .null, .null, .null]) hx hb hts i_MO t_MO t_MO_ok n_MO hown hK hP cD hS 0 (xW_at (by omega) (by rw [va_up_ne _ _ (by omega), if_pos rfl])) rfl 22 (by decide) (hts _ wd_722) (fun _ h9 => h9) rfl hin rfl (by decide +kernel) rfl rfl (Nat.le_of_ble_eq_true rfl) d_MO_init_321 (fun H locs hP _ hS => ?_)
  rw [xW_up (lay := cB b) (i := 0)] at hP
  have hP : va_P D xcl (xW 12 (cB b) (fun i => if i = 0 then .inr (6, [.int 0, .ref (b + 1), .ref (b + 2), .ref (b + 3), .ref (b + 4), .int 0, .int 0, .int 0, .int 0, .int 0, .long 0, .int 0, .int (-1), .int 0, .int (-1), .int 0, .ref (b + 5), .ref (b + 6), .ref (b + 7), .ref (b + 8), .ref (b + 9), .ref (b + 10), .ref (b + 11), .null, .null, .null, .null, .null, .null, .int 0, .int 0, .int 0, .int 0, .int 0, .null, .null, .null, .null, .null, .null, .null]) else mcell (cB b) cA i (M0.1 i) (M0.2 i))) H := cTo (n := 12) hP (fun i hi => by
    by_cases h1 : i = 0
    · subst h1; rw [va_up_self, if_pos rfl]; rfl
    · rw [va_up_ne _ _ h1, if_neg h1]
      by_cases h2 : i = 11
      · subst h2; rw [va_up_self, mc_11]; rw [(by funext q; simp [M0] : M0.1 11 = fun _ => 0)]
      · rw [va_up_ne _ _ h2, if_neg h1])
  refine lv_aload_n hx hb d_MO_init_324 rfl (lv_at hl 0 rfl) ?_
  refine lv_iconst (v := (4 : Int32)) hx hb d_MO_init_325 (by decide) ?_
  refine va_newa (atype := .boolean) (N' := 4) (a0 := (4, .inl (fun _ => 0))) hx hb (hts _ wd_824) rfl hK hP cD hS hA (fun _ => rfl) (by decide) (by decide +kernel) (by decide) (by decide) (by decide) d_MO_init_326 (fun q c1 H hK1 hP hD hS => ?_)
  have e1 := tys_one hK1 3 rfl
  subst e1
  clear hK1
  refine W.size (fun hsz => ?_)
  have e1 := cNext hP hD (by omega)
  subst e1
  clear hD hsz
  rw [cPush] at hP
  refine va_putF (v := .ref (b + 12)) (ty := .array .boolean) (C := R_MO) (T := F_MO) (N := 41) (a := b + 0) (ci := 6) (fs := [.int 0, .ref (b + 1), .ref (b + 2), .ref (b + 3), .ref (b + 4), .int 0, .int 0, .int 0, .int 0, .int 0, .long 0, .int 0, .int (-1), .int 0, .int (-1), .int 0, .ref (b + 5), .ref (b + 6), .ref (b + 7), .ref (b + 8), .ref (b + 9), .ref (b + 10), .ref (b + 11), .null, .null, .null, .null, .null, .null, .int 0, .int 0, .int 0, .int 0, .int 0, .null, .null, .null, .null, .null, .null, .null]) hx hb hts i_MO t_MO t_MO_ok n_MO hown hK hP cD hS 0 (xW_at (by omega) (by rw [va_up_ne _ _ (by omega), if_pos rfl])) rfl 23 (by decide) (hts _ wd_723) (fun _ h9 => h9) rfl hin rfl (by decide +kernel) rfl rfl (Nat.le_of_ble_eq_true rfl) d_MO_init_328 (fun H locs hP _ hS => ?_)
  rw [xW_up (lay := cB b) (i := 0)] at hP
  have hP : va_P D xcl (xW 13 (cB b) (fun i => if i = 0 then .inr (6, [.int 0, .ref (b + 1), .ref (b + 2), .ref (b + 3), .ref (b + 4), .int 0, .int 0, .int 0, .int 0, .int 0, .long 0, .int 0, .int (-1), .int 0, .int (-1), .int 0, .ref (b + 5), .ref (b + 6), .ref (b + 7), .ref (b + 8), .ref (b + 9), .ref (b + 10), .ref (b + 11), .ref (b + 12), .null, .null, .null, .null, .null, .int 0, .int 0, .int 0, .int 0, .int 0, .null, .null, .null, .null, .null, .null, .null]) else mcell (cB b) cA i (M0.1 i) (M0.2 i))) H := cTo (n := 13) hP (fun i hi => by
    by_cases h1 : i = 0
    · subst h1; rw [va_up_self, if_pos rfl]; rfl
    · rw [va_up_ne _ _ h1, if_neg h1]
      by_cases h2 : i = 12
      · subst h2; rw [va_up_self, mc_12]; rw [(by funext q; simp [M0] : M0.1 12 = fun _ => 0)]
      · rw [va_up_ne _ _ h2, if_neg h1])
  refine lv_aload_n hx hb d_MO_init_331 rfl (lv_at hl 0 rfl) ?_
  refine lv_bipush (v := (8 : Int32)) hx hb d_MO_init_332 (by decide) ?_
  refine va_newa (atype := .int) (N' := 8) (a0 := (8, .inl (fun _ => 0))) hx hb (hts _ wd_107) rfl hK hP cD hS hA (fun _ => rfl) (by decide) (by decide +kernel) (by decide) (by decide) (by decide) d_MO_init_334 (fun q c1 H hK1 hP hD hS => ?_)
  have e1 := tys_one hK1 2 rfl
  subst e1
  clear hK1
  refine W.size (fun hsz => ?_)
  have e1 := cNext hP hD (by omega)
  subst e1
  clear hD hsz
  rw [cPush] at hP
  refine va_putF (v := .ref (b + 13)) (ty := .array .int) (C := R_MO) (T := F_MO) (N := 41) (a := b + 0) (ci := 6) (fs := [.int 0, .ref (b + 1), .ref (b + 2), .ref (b + 3), .ref (b + 4), .int 0, .int 0, .int 0, .int 0, .int 0, .long 0, .int 0, .int (-1), .int 0, .int (-1), .int 0, .ref (b + 5), .ref (b + 6), .ref (b + 7), .ref (b + 8), .ref (b + 9), .ref (b + 10), .ref (b + 11), .ref (b + 12), .null, .null, .null, .null, .null, .int 0, .int 0, .int 0, .int 0, .int 0, .null, .null, .null, .null, .null, .null, .null]) hx hb hts i_MO t_MO t_MO_ok n_MO hown hK hP cD hS 0 (xW_at (by omega) (by rw [va_up_ne _ _ (by omega), if_pos rfl])) rfl 24 (by decide) (hts _ wd_724) (fun _ h9 => h9) rfl hin rfl (by decide +kernel) rfl rfl (Nat.le_of_ble_eq_true rfl) d_MO_init_336 (fun H locs hP _ hS => ?_)
  rw [xW_up (lay := cB b) (i := 0)] at hP
  have hP : va_P D xcl (xW 14 (cB b) (fun i => if i = 0 then .inr (6, [.int 0, .ref (b + 1), .ref (b + 2), .ref (b + 3), .ref (b + 4), .int 0, .int 0, .int 0, .int 0, .int 0, .long 0, .int 0, .int (-1), .int 0, .int (-1), .int 0, .ref (b + 5), .ref (b + 6), .ref (b + 7), .ref (b + 8), .ref (b + 9), .ref (b + 10), .ref (b + 11), .ref (b + 12), .ref (b + 13), .null, .null, .null, .null, .int 0, .int 0, .int 0, .int 0, .int 0, .null, .null, .null, .null, .null, .null, .null]) else mcell (cB b) cA i (M0.1 i) (M0.2 i))) H := cTo (n := 14) hP (fun i hi => by
    by_cases h1 : i = 0
    · subst h1; rw [va_up_self, if_pos rfl]; rfl
    · rw [va_up_ne _ _ h1, if_neg h1]
      by_cases h2 : i = 13
      · subst h2; rw [va_up_self, mc_13]; rw [(by funext q; simp [M0] : M0.1 13 = fun _ => 0)]
      · rw [va_up_ne _ _ h2, if_neg h1])
  refine lv_aload_n hx hb d_MO_init_339 rfl (lv_at hl 0 rfl) ?_
  refine lv_sipush (v := (320 : Int32)) hx hb d_MO_init_340 (by decide) ?_
  refine va_newa (atype := .int) (N' := 320) (a0 := (320, .inl (fun _ => 0))) hx hb (hts _ wd_107) rfl hK hP cD hS hA (fun _ => rfl) (by decide) (by decide +kernel) (by decide) (by decide) (by decide) d_MO_init_343 (fun q c1 H hK1 hP hD hS => ?_)
  have e1 := tys_one hK1 2 rfl
  subst e1
  clear hK1
  refine W.size (fun hsz => ?_)
  have e1 := cNext hP hD (by omega)
  subst e1
  clear hD hsz
  rw [cPush] at hP
  refine va_putF (v := .ref (b + 14)) (ty := .array .int) (C := R_MO) (T := F_MO) (N := 41) (a := b + 0) (ci := 6) (fs := [.int 0, .ref (b + 1), .ref (b + 2), .ref (b + 3), .ref (b + 4), .int 0, .int 0, .int 0, .int 0, .int 0, .long 0, .int 0, .int (-1), .int 0, .int (-1), .int 0, .ref (b + 5), .ref (b + 6), .ref (b + 7), .ref (b + 8), .ref (b + 9), .ref (b + 10), .ref (b + 11), .ref (b + 12), .ref (b + 13), .null, .null, .null, .null, .int 0, .int 0, .int 0, .int 0, .int 0, .null, .null, .null, .null, .null, .null, .null]) hx hb hts i_MO t_MO t_MO_ok n_MO hown hK hP cD hS 0 (xW_at (by omega) (by rw [va_up_ne _ _ (by omega), if_pos rfl])) rfl 25 (by decide) (hts _ wd_725) (fun _ h9 => h9) rfl hin rfl (by decide +kernel) rfl rfl (Nat.le_of_ble_eq_true rfl) d_MO_init_345 (fun H locs hP _ hS => ?_)
  rw [xW_up (lay := cB b) (i := 0)] at hP
  have hP : va_P D xcl (xW 15 (cB b) (fun i => if i = 0 then .inr (6, [.int 0, .ref (b + 1), .ref (b + 2), .ref (b + 3), .ref (b + 4), .int 0, .int 0, .int 0, .int 0, .int 0, .long 0, .int 0, .int (-1), .int 0, .int (-1), .int 0, .ref (b + 5), .ref (b + 6), .ref (b + 7), .ref (b + 8), .ref (b + 9), .ref (b + 10), .ref (b + 11), .ref (b + 12), .ref (b + 13), .ref (b + 14), .null, .null, .null, .int 0, .int 0, .int 0, .int 0, .int 0, .null, .null, .null, .null, .null, .null, .null]) else mcell (cB b) cA i (M0.1 i) (M0.2 i))) H := cTo (n := 15) hP (fun i hi => by
    by_cases h1 : i = 0
    · subst h1; rw [va_up_self, if_pos rfl]; rfl
    · rw [va_up_ne _ _ h1, if_neg h1]
      by_cases h2 : i = 14
      · subst h2; rw [va_up_self, mc_14]; rw [(by funext q; simp [M0] : M0.1 14 = fun _ => 0)]
      · rw [va_up_ne _ _ h2, if_neg h1])
  refine lv_aload_n hx hb d_MO_init_348 rfl (lv_at hl 0 rfl) ?_
  refine lv_sipush (v := (320 : Int32)) hx hb d_MO_init_349 (by decide) ?_
  refine va_newa (atype := .int) (N' := 320) (a0 := (320, .inl (fun _ => 0))) hx hb (hts _ wd_107) rfl hK hP cD hS hA (fun _ => rfl) (by decide) (by decide +kernel) (by decide) (by decide) (by decide) d_MO_init_352 (fun q c1 H hK1 hP hD hS => ?_)
  have e1 := tys_one hK1 2 rfl
  subst e1
  clear hK1
  refine W.size (fun hsz => ?_)
  have e1 := cNext hP hD (by omega)
  subst e1
  clear hD hsz
  rw [cPush] at hP
  refine va_putF (v := .ref (b + 15)) (ty := .array .int) (C := R_MO) (T := F_MO) (N := 41) (a := b + 0) (ci := 6) (fs := [.int 0, .ref (b + 1), .ref (b + 2), .ref (b + 3), .ref (b + 4), .int 0, .int 0, .int 0, .int 0, .int 0, .long 0, .int 0, .int (-1), .int 0, .int (-1), .int 0, .ref (b + 5), .ref (b + 6), .ref (b + 7), .ref (b + 8), .ref (b + 9), .ref (b + 10), .ref (b + 11), .ref (b + 12), .ref (b + 13), .ref (b + 14), .null, .null, .null, .int 0, .int 0, .int 0, .int 0, .int 0, .null, .null, .null, .null, .null, .null, .null]) hx hb hts i_MO t_MO t_MO_ok n_MO hown hK hP cD hS 0 (xW_at (by omega) (by rw [va_up_ne _ _ (by omega), if_pos rfl])) rfl 26 (by decide) (hts _ wd_726) (fun _ h9 => h9) rfl hin rfl (by decide +kernel) rfl rfl (Nat.le_of_ble_eq_true rfl) d_MO_init_354 (fun H locs hP _ hS => ?_)
  rw [xW_up (lay := cB b) (i := 0)] at hP
  have hP : va_P D xcl (xW 16 (cB b) (fun i => if i = 0 then .inr (6, [.int 0, .ref (b + 1), .ref (b + 2), .ref (b + 3), .ref (b + 4), .int 0, .int 0, .int 0, .int 0, .int 0, .long 0, .int 0, .int (-1), .int 0, .int (-1), .int 0, .ref (b + 5), .ref (b + 6), .ref (b + 7), .ref (b + 8), .ref (b + 9), .ref (b + 10), .ref (b + 11), .ref (b + 12), .ref (b + 13), .ref (b + 14), .ref (b + 15), .null, .null, .int 0, .int 0, .int 0, .int 0, .int 0, .null, .null, .null, .null, .null, .null, .null]) else mcell (cB b) cA i (M0.1 i) (M0.2 i))) H := cTo (n := 16) hP (fun i hi => by
    by_cases h1 : i = 0
    · subst h1; rw [va_up_self, if_pos rfl]; rfl
    · rw [va_up_ne _ _ h1, if_neg h1]
      by_cases h2 : i = 15
      · subst h2; rw [va_up_self, mc_15]; rw [(by funext q; simp [M0] : M0.1 15 = fun _ => 0)]
      · rw [va_up_ne _ _ h2, if_neg h1])
  refine lv_aload_n hx hb d_MO_init_357 rfl (lv_at hl 0 rfl) ?_
  refine lv_sipush (v := (1600 : Int32)) hx hb d_MO_init_358 (by decide) ?_
  refine va_newa (atype := .int) (N' := 1600) (a0 := (1600, .inl (fun _ => 0))) hx hb (hts _ wd_107) rfl hK hP cD hS hA (fun _ => rfl) (by decide) (by decide +kernel) (by decide) (by decide) (by decide) d_MO_init_361 (fun q c1 H hK1 hP hD hS => ?_)
  have e1 := tys_one hK1 2 rfl
  subst e1
  clear hK1
  refine W.size (fun hsz => ?_)
  have e1 := cNext hP hD (by omega)
  subst e1
  clear hD hsz
  rw [cPush] at hP
  refine va_putF (v := .ref (b + 16)) (ty := .array .int) (C := R_MO) (T := F_MO) (N := 41) (a := b + 0) (ci := 6) (fs := [.int 0, .ref (b + 1), .ref (b + 2), .ref (b + 3), .ref (b + 4), .int 0, .int 0, .int 0, .int 0, .int 0, .long 0, .int 0, .int (-1), .int 0, .int (-1), .int 0, .ref (b + 5), .ref (b + 6), .ref (b + 7), .ref (b + 8), .ref (b + 9), .ref (b + 10), .ref (b + 11), .ref (b + 12), .ref (b + 13), .ref (b + 14), .ref (b + 15), .null, .null, .int 0, .int 0, .int 0, .int 0, .int 0, .null, .null, .null, .null, .null, .null, .null]) hx hb hts i_MO t_MO t_MO_ok n_MO hown hK hP cD hS 0 (xW_at (by omega) (by rw [va_up_ne _ _ (by omega), if_pos rfl])) rfl 27 (by decide) (hts _ wd_727) (fun _ h9 => h9) rfl hin rfl (by decide +kernel) rfl rfl (Nat.le_of_ble_eq_true rfl) d_MO_init_363 (fun H locs hP _ hS => ?_)
  rw [xW_up (lay := cB b) (i := 0)] at hP
  have hP : va_P D xcl (xW 17 (cB b) (fun i => if i = 0 then .inr (6, [.int 0, .ref (b + 1), .ref (b + 2), .ref (b + 3), .ref (b + 4), .int 0, .int 0, .int 0, .int 0, .int 0, .long 0, .int 0, .int (-1), .int 0, .int (-1), .int 0, .ref (b + 5), .ref (b + 6), .ref (b + 7), .ref (b + 8), .ref (b + 9), .ref (b + 10), .ref (b + 11), .ref (b + 12), .ref (b + 13), .ref (b + 14), .ref (b + 15), .ref (b + 16), .null, .int 0, .int 0, .int 0, .int 0, .int 0, .null, .null, .null, .null, .null, .null, .null]) else mcell (cB b) cA i (M0.1 i) (M0.2 i))) H := cTo (n := 17) hP (fun i hi => by
    by_cases h1 : i = 0
    · subst h1; rw [va_up_self, if_pos rfl]; rfl
    · rw [va_up_ne _ _ h1, if_neg h1]
      by_cases h2 : i = 16
      · subst h2; rw [va_up_self, mc_16]; rw [(by funext q; simp [M0] : M0.1 16 = fun _ => 0)]
      · rw [va_up_ne _ _ h2, if_neg h1])
  refine lv_aload_n hx hb d_MO_init_366 rfl (lv_at hl 0 rfl) ?_
  refine lv_sipush (v := (320 : Int32)) hx hb d_MO_init_367 (by decide) ?_
  refine va_newa (atype := .long) (N' := 320) (a0 := (320, .inr (.inl (fun _ => 0)))) hx hb (hts _ wd_108) rfl hK hP cD hS hA (fun _ => rfl) (by decide) (by decide +kernel) (by decide) (by decide) (by decide) d_MO_init_370 (fun q c1 H hK1 hP hD hS => ?_)
  have e1 := tys_one hK1 1 rfl
  subst e1
  clear hK1
  refine W.size (fun hsz => ?_)
  have e1 := cNext hP hD (by omega)
  subst e1
  clear hD hsz
  rw [cPush] at hP
  refine va_putF (v := .ref (b + 17)) (ty := .array .long) (C := R_MO) (T := F_MO) (N := 41) (a := b + 0) (ci := 6) (fs := [.int 0, .ref (b + 1), .ref (b + 2), .ref (b + 3), .ref (b + 4), .int 0, .int 0, .int 0, .int 0, .int 0, .long 0, .int 0, .int (-1), .int 0, .int (-1), .int 0, .ref (b + 5), .ref (b + 6), .ref (b + 7), .ref (b + 8), .ref (b + 9), .ref (b + 10), .ref (b + 11), .ref (b + 12), .ref (b + 13), .ref (b + 14), .ref (b + 15), .ref (b + 16), .null, .int 0, .int 0, .int 0, .int 0, .int 0, .null, .null, .null, .null, .null, .null, .null]) hx hb hts i_MO t_MO t_MO_ok n_MO hown hK hP cD hS 0 (xW_at (by omega) (by rw [va_up_ne _ _ (by omega), if_pos rfl])) rfl 28 (by decide) (hts _ wd_728) (fun _ h9 => h9) rfl hin rfl (by decide +kernel) rfl rfl (Nat.le_of_ble_eq_true rfl) d_MO_init_372 (fun H locs hP _ hS => ?_)
  rw [xW_up (lay := cB b) (i := 0)] at hP
  have hP : va_P D xcl (xW 18 (cB b) (fun i => if i = 0 then .inr (6, [.int 0, .ref (b + 1), .ref (b + 2), .ref (b + 3), .ref (b + 4), .int 0, .int 0, .int 0, .int 0, .int 0, .long 0, .int 0, .int (-1), .int 0, .int (-1), .int 0, .ref (b + 5), .ref (b + 6), .ref (b + 7), .ref (b + 8), .ref (b + 9), .ref (b + 10), .ref (b + 11), .ref (b + 12), .ref (b + 13), .ref (b + 14), .ref (b + 15), .ref (b + 16), .ref (b + 17), .int 0, .int 0, .int 0, .int 0, .int 0, .null, .null, .null, .null, .null, .null, .null]) else mcell (cB b) cA i (M0.1 i) (M0.2 i))) H := cTo (n := 18) hP (fun i hi => by
    by_cases h1 : i = 0
    · subst h1; rw [va_up_self, if_pos rfl]; rfl
    · rw [va_up_ne _ _ h1, if_neg h1]
      by_cases h2 : i = 17
      · subst h2; rw [va_up_self, mc_17]; rw [(by funext q; simp [M0] : M0.2 17 = fun _ => 0)]
      · rw [va_up_ne _ _ h2, if_neg h1])
  refine lv_aload_n hx hb d_MO_init_375 rfl (lv_at hl 0 rfl) ?_
  refine lv_bipush (v := (16 : Int32)) hx hb d_MO_init_376 (by decide) ?_
  refine va_newa (atype := .int) (N' := 16) (a0 := (16, .inl (fun _ => 0))) hx hb (hts _ wd_107) rfl hK hP cD hS hA (fun _ => rfl) (by decide) (by decide +kernel) (by decide) (by decide) (by decide) d_MO_init_378 (fun q c1 H hK1 hP hD hS => ?_)
  have e1 := tys_one hK1 2 rfl
  subst e1
  clear hK1
  refine W.size (fun hsz => ?_)
  have e1 := cNext hP hD (by omega)
  subst e1
  clear hD hsz
  rw [cPush] at hP
  refine va_putF (v := .ref (b + 18)) (ty := .array .int) (C := R_MO) (T := F_MO) (N := 41) (a := b + 0) (ci := 6) (fs := [.int 0, .ref (b + 1), .ref (b + 2), .ref (b + 3), .ref (b + 4), .int 0, .int 0, .int 0, .int 0, .int 0, .long 0, .int 0, .int (-1), .int 0, .int (-1), .int 0, .ref (b + 5), .ref (b + 6), .ref (b + 7), .ref (b + 8), .ref (b + 9), .ref (b + 10), .ref (b + 11), .ref (b + 12), .ref (b + 13), .ref (b + 14), .ref (b + 15), .ref (b + 16), .ref (b + 17), .int 0, .int 0, .int 0, .int 0, .int 0, .null, .null, .null, .null, .null, .null, .null]) hx hb hts i_MO t_MO t_MO_ok n_MO hown hK hP cD hS 0 (xW_at (by omega) (by rw [va_up_ne _ _ (by omega), if_pos rfl])) rfl 34 (by decide) (hts _ wd_734) (fun _ h9 => h9) rfl hin rfl (by decide +kernel) rfl rfl (Nat.le_of_ble_eq_true rfl) d_MO_init_380 (fun H locs hP _ hS => ?_)
  rw [xW_up (lay := cB b) (i := 0)] at hP
  have hP : va_P D xcl (xW 19 (cB b) (fun i => if i = 0 then .inr (6, [.int 0, .ref (b + 1), .ref (b + 2), .ref (b + 3), .ref (b + 4), .int 0, .int 0, .int 0, .int 0, .int 0, .long 0, .int 0, .int (-1), .int 0, .int (-1), .int 0, .ref (b + 5), .ref (b + 6), .ref (b + 7), .ref (b + 8), .ref (b + 9), .ref (b + 10), .ref (b + 11), .ref (b + 12), .ref (b + 13), .ref (b + 14), .ref (b + 15), .ref (b + 16), .ref (b + 17), .int 0, .int 0, .int 0, .int 0, .int 0, .ref (b + 18), .null, .null, .null, .null, .null, .null]) else mcell (cB b) cA i (M0.1 i) (M0.2 i))) H := cTo (n := 19) hP (fun i hi => by
    by_cases h1 : i = 0
    · subst h1; rw [va_up_self, if_pos rfl]; rfl
    · rw [va_up_ne _ _ h1, if_neg h1]
      by_cases h2 : i = 18
      · subst h2; rw [va_up_self, mc_18]; rw [(by funext q; simp [M0] : M0.1 18 = fun _ => 0)]
      · rw [va_up_ne _ _ h2, if_neg h1])
  refine lv_aload_n hx hb d_MO_init_383 rfl (lv_at hl 0 rfl) ?_
  refine lv_bipush (v := (16 : Int32)) hx hb d_MO_init_384 (by decide) ?_
  refine va_newa (atype := .int) (N' := 16) (a0 := (16, .inl (fun _ => 0))) hx hb (hts _ wd_107) rfl hK hP cD hS hA (fun _ => rfl) (by decide) (by decide +kernel) (by decide) (by decide) (by decide) d_MO_init_386 (fun q c1 H hK1 hP hD hS => ?_)
  have e1 := tys_one hK1 2 rfl
  subst e1
  clear hK1
  refine W.size (fun hsz => ?_)
  have e1 := cNext hP hD (by omega)
  subst e1
  clear hD hsz
  rw [cPush] at hP
  refine va_putF (v := .ref (b + 19)) (ty := .array .int) (C := R_MO) (T := F_MO) (N := 41) (a := b + 0) (ci := 6) (fs := [.int 0, .ref (b + 1), .ref (b + 2), .ref (b + 3), .ref (b + 4), .int 0, .int 0, .int 0, .int 0, .int 0, .long 0, .int 0, .int (-1), .int 0, .int (-1), .int 0, .ref (b + 5), .ref (b + 6), .ref (b + 7), .ref (b + 8), .ref (b + 9), .ref (b + 10), .ref (b + 11), .ref (b + 12), .ref (b + 13), .ref (b + 14), .ref (b + 15), .ref (b + 16), .ref (b + 17), .int 0, .int 0, .int 0, .int 0, .int 0, .ref (b + 18), .null, .null, .null, .null, .null, .null]) hx hb hts i_MO t_MO t_MO_ok n_MO hown hK hP cD hS 0 (xW_at (by omega) (by rw [va_up_ne _ _ (by omega), if_pos rfl])) rfl 35 (by decide) (hts _ wd_735) (fun _ h9 => h9) rfl hin rfl (by decide +kernel) rfl rfl (Nat.le_of_ble_eq_true rfl) d_MO_init_388 (fun H locs hP _ hS => ?_)
  rw [xW_up (lay := cB b) (i := 0)] at hP
  have hP : va_P D xcl (xW 20 (cB b) (fun i => if i = 0 then .inr (6, [.int 0, .ref (b + 1), .ref (b + 2), .ref (b + 3), .ref (b + 4), .int 0, .int 0, .int 0, .int 0, .int 0, .long 0, .int 0, .int (-1), .int 0, .int (-1), .int 0, .ref (b + 5), .ref (b + 6), .ref (b + 7), .ref (b + 8), .ref (b + 9), .ref (b + 10), .ref (b + 11), .ref (b + 12), .ref (b + 13), .ref (b + 14), .ref (b + 15), .ref (b + 16), .ref (b + 17), .int 0, .int 0, .int 0, .int 0, .int 0, .ref (b + 18), .ref (b + 19), .null, .null, .null, .null, .null]) else mcell (cB b) cA i (M0.1 i) (M0.2 i))) H := cTo (n := 20) hP (fun i hi => by
    by_cases h1 : i = 0
    · subst h1; rw [va_up_self, if_pos rfl]; rfl
    · rw [va_up_ne _ _ h1, if_neg h1]
      by_cases h2 : i = 19
      · subst h2; rw [va_up_self, mc_19]; rw [(by funext q; simp [M0] : M0.1 19 = fun _ => 0)]
      · rw [va_up_ne _ _ h2, if_neg h1])
  refine lv_aload_n hx hb d_MO_init_391 rfl (lv_at hl 0 rfl) ?_
  refine lv_bipush (v := (16 : Int32)) hx hb d_MO_init_392 (by decide) ?_
  refine va_newa (atype := .int) (N' := 16) (a0 := (16, .inl (fun _ => 0))) hx hb (hts _ wd_107) rfl hK hP cD hS hA (fun _ => rfl) (by decide) (by decide +kernel) (by decide) (by decide) (by decide) d_MO_init_394 (fun q c1 H hK1 hP hD hS => ?_)
  have e1 := tys_one hK1 2 rfl
  subst e1
  clear hK1
  refine W.size (fun hsz => ?_)
  have e1 := cNext hP hD (by omega)
  subst e1
  clear hD hsz
  rw [cPush] at hP
  refine va_putF (v := .ref (b + 20)) (ty := .array .int) (C := R_MO) (T := F_MO) (N := 41) (a := b + 0) (ci := 6) (fs := [.int 0, .ref (b + 1), .ref (b + 2), .ref (b + 3), .ref (b + 4), .int 0, .int 0, .int 0, .int 0, .int 0, .long 0, .int 0, .int (-1), .int 0, .int (-1), .int 0, .ref (b + 5), .ref (b + 6), .ref (b + 7), .ref (b + 8), .ref (b + 9), .ref (b + 10), .ref (b + 11), .ref (b + 12), .ref (b + 13), .ref (b + 14), .ref (b + 15), .ref (b + 16), .ref (b + 17), .int 0, .int 0, .int 0, .int 0, .int 0, .ref (b + 18), .ref (b + 19), .null, .null, .null, .null, .null]) hx hb hts i_MO t_MO t_MO_ok n_MO hown hK hP cD hS 0 (xW_at (by omega) (by rw [va_up_ne _ _ (by omega), if_pos rfl])) rfl 36 (by decide) (hts _ wd_736) (fun _ h9 => h9) rfl hin rfl (by decide +kernel) rfl rfl (Nat.le_of_ble_eq_true rfl) d_MO_init_396 (fun H locs hP _ hS => ?_)
  rw [xW_up (lay := cB b) (i := 0)] at hP
  have hP : va_P D xcl (xW 21 (cB b) (fun i => if i = 0 then .inr (6, [.int 0, .ref (b + 1), .ref (b + 2), .ref (b + 3), .ref (b + 4), .int 0, .int 0, .int 0, .int 0, .int 0, .long 0, .int 0, .int (-1), .int 0, .int (-1), .int 0, .ref (b + 5), .ref (b + 6), .ref (b + 7), .ref (b + 8), .ref (b + 9), .ref (b + 10), .ref (b + 11), .ref (b + 12), .ref (b + 13), .ref (b + 14), .ref (b + 15), .ref (b + 16), .ref (b + 17), .int 0, .int 0, .int 0, .int 0, .int 0, .ref (b + 18), .ref (b + 19), .ref (b + 20), .null, .null, .null, .null]) else mcell (cB b) cA i (M0.1 i) (M0.2 i))) H := cTo (n := 21) hP (fun i hi => by
    by_cases h1 : i = 0
    · subst h1; rw [va_up_self, if_pos rfl]; rfl
    · rw [va_up_ne _ _ h1, if_neg h1]
      by_cases h2 : i = 20
      · subst h2; rw [va_up_self, mc_20]; rw [(by funext q; simp [M0] : M0.1 20 = fun _ => 0)]
      · rw [va_up_ne _ _ h2, if_neg h1])
  refine lv_aload_n hx hb d_MO_init_399 rfl (lv_at hl 0 rfl) ?_
  refine lv_bipush (v := (16 : Int32)) hx hb d_MO_init_400 (by decide) ?_
  refine va_newa (atype := .int) (N' := 16) (a0 := (16, .inl (fun _ => 0))) hx hb (hts _ wd_107) rfl hK hP cD hS hA (fun _ => rfl) (by decide) (by decide +kernel) (by decide) (by decide) (by decide) d_MO_init_402 (fun q c1 H hK1 hP hD hS => ?_)
  have e1 := tys_one hK1 2 rfl
  subst e1
  clear hK1
  refine W.size (fun hsz => ?_)
  have e1 := cNext hP hD (by omega)
  subst e1
  clear hD hsz
  rw [cPush] at hP
  refine va_putF (v := .ref (b + 21)) (ty := .array .int) (C := R_MO) (T := F_MO) (N := 41) (a := b + 0) (ci := 6) (fs := [.int 0, .ref (b + 1), .ref (b + 2), .ref (b + 3), .ref (b + 4), .int 0, .int 0, .int 0, .int 0, .int 0, .long 0, .int 0, .int (-1), .int 0, .int (-1), .int 0, .ref (b + 5), .ref (b + 6), .ref (b + 7), .ref (b + 8), .ref (b + 9), .ref (b + 10), .ref (b + 11), .ref (b + 12), .ref (b + 13), .ref (b + 14), .ref (b + 15), .ref (b + 16), .ref (b + 17), .int 0, .int 0, .int 0, .int 0, .int 0, .ref (b + 18), .ref (b + 19), .ref (b + 20), .null, .null, .null, .null]) hx hb hts i_MO t_MO t_MO_ok n_MO hown hK hP cD hS 0 (xW_at (by omega) (by rw [va_up_ne _ _ (by omega), if_pos rfl])) rfl 37 (by decide) (hts _ wd_737) (fun _ h9 => h9) rfl hin rfl (by decide +kernel) rfl rfl (Nat.le_of_ble_eq_true rfl) d_MO_init_404 (fun H locs hP _ hS => ?_)
  rw [xW_up (lay := cB b) (i := 0)] at hP
  have hP : va_P D xcl (xW 22 (cB b) (fun i => if i = 0 then .inr (6, [.int 0, .ref (b + 1), .ref (b + 2), .ref (b + 3), .ref (b + 4), .int 0, .int 0, .int 0, .int 0, .int 0, .long 0, .int 0, .int (-1), .int 0, .int (-1), .int 0, .ref (b + 5), .ref (b + 6), .ref (b + 7), .ref (b + 8), .ref (b + 9), .ref (b + 10), .ref (b + 11), .ref (b + 12), .ref (b + 13), .ref (b + 14), .ref (b + 15), .ref (b + 16), .ref (b + 17), .int 0, .int 0, .int 0, .int 0, .int 0, .ref (b + 18), .ref (b + 19), .ref (b + 20), .ref (b + 21), .null, .null, .null]) else mcell (cB b) cA i (M0.1 i) (M0.2 i))) H := cTo (n := 22) hP (fun i hi => by
    by_cases h1 : i = 0
    · subst h1; rw [va_up_self, if_pos rfl]; rfl
    · rw [va_up_ne _ _ h1, if_neg h1]
      by_cases h2 : i = 21
      · subst h2; rw [va_up_self, mc_21]; rw [(by funext q; simp [M0] : M0.1 21 = fun _ => 0)]
      · rw [va_up_ne _ _ h2, if_neg h1])
  refine lv_aload_n hx hb d_MO_init_407 rfl (lv_at hl 0 rfl) ?_
  refine lv_bipush (v := (64 : Int32)) hx hb d_MO_init_408 (by decide) ?_
  refine va_newa (atype := .int) (N' := 64) (a0 := (64, .inl (fun _ => 0))) hx hb (hts _ wd_107) rfl hK hP cD hS hA (fun _ => rfl) (by decide) (by decide +kernel) (by decide) (by decide) (by decide) d_MO_init_410 (fun q c1 H hK1 hP hD hS => ?_)
  have e1 := tys_one hK1 2 rfl
  subst e1
  clear hK1
  refine W.size (fun hsz => ?_)
  have e1 := cNext hP hD (by omega)
  subst e1
  clear hD hsz
  rw [cPush] at hP
  refine va_putF (v := .ref (b + 22)) (ty := .array .int) (C := R_MO) (T := F_MO) (N := 41) (a := b + 0) (ci := 6) (fs := [.int 0, .ref (b + 1), .ref (b + 2), .ref (b + 3), .ref (b + 4), .int 0, .int 0, .int 0, .int 0, .int 0, .long 0, .int 0, .int (-1), .int 0, .int (-1), .int 0, .ref (b + 5), .ref (b + 6), .ref (b + 7), .ref (b + 8), .ref (b + 9), .ref (b + 10), .ref (b + 11), .ref (b + 12), .ref (b + 13), .ref (b + 14), .ref (b + 15), .ref (b + 16), .ref (b + 17), .int 0, .int 0, .int 0, .int 0, .int 0, .ref (b + 18), .ref (b + 19), .ref (b + 20), .ref (b + 21), .null, .null, .null]) hx hb hts i_MO t_MO t_MO_ok n_MO hown hK hP cD hS 0 (xW_at (by omega) (by rw [va_up_ne _ _ (by omega), if_pos rfl])) rfl 38 (by decide) (hts _ wd_738) (fun _ h9 => h9) rfl hin rfl (by decide +kernel) rfl rfl (Nat.le_of_ble_eq_true rfl) d_MO_init_412 (fun H locs hP _ hS => ?_)
  rw [xW_up (lay := cB b) (i := 0)] at hP
  have hP : va_P D xcl (xW 23 (cB b) (fun i => if i = 0 then .inr (6, [.int 0, .ref (b + 1), .ref (b + 2), .ref (b + 3), .ref (b + 4), .int 0, .int 0, .int 0, .int 0, .int 0, .long 0, .int 0, .int (-1), .int 0, .int (-1), .int 0, .ref (b + 5), .ref (b + 6), .ref (b + 7), .ref (b + 8), .ref (b + 9), .ref (b + 10), .ref (b + 11), .ref (b + 12), .ref (b + 13), .ref (b + 14), .ref (b + 15), .ref (b + 16), .ref (b + 17), .int 0, .int 0, .int 0, .int 0, .int 0, .ref (b + 18), .ref (b + 19), .ref (b + 20), .ref (b + 21), .ref (b + 22), .null, .null]) else mcell (cB b) cA i (M0.1 i) (M0.2 i))) H := cTo (n := 23) hP (fun i hi => by
    by_cases h1 : i = 0
    · subst h1; rw [va_up_self, if_pos rfl]; rfl
    · rw [va_up_ne _ _ h1, if_neg h1]
      by_cases h2 : i = 22
      · subst h2; rw [va_up_self, mc_22]; rw [(by funext q; simp [M0] : M0.1 22 = fun _ => 0)]
      · rw [va_up_ne _ _ h2, if_neg h1])
  refine lv_aload_n hx hb d_MO_init_415 rfl (lv_at hl 0 rfl) ?_
  refine lv_bipush (v := (16 : Int32)) hx hb d_MO_init_416 (by decide) ?_
  refine va_newa (atype := .int) (N' := 16) (a0 := (16, .inl (fun _ => 0))) hx hb (hts _ wd_107) rfl hK hP cD hS hA (fun _ => rfl) (by decide) (by decide +kernel) (by decide) (by decide) (by decide) d_MO_init_418 (fun q c1 H hK1 hP hD hS => ?_)
  have e1 := tys_one hK1 2 rfl
  subst e1
  clear hK1
  refine W.size (fun hsz => ?_)
  have e1 := cNext hP hD (by omega)
  subst e1
  clear hD hsz
  rw [cPush] at hP
  refine va_putF (v := .ref (b + 23)) (ty := .array .int) (C := R_MO) (T := F_MO) (N := 41) (a := b + 0) (ci := 6) (fs := [.int 0, .ref (b + 1), .ref (b + 2), .ref (b + 3), .ref (b + 4), .int 0, .int 0, .int 0, .int 0, .int 0, .long 0, .int 0, .int (-1), .int 0, .int (-1), .int 0, .ref (b + 5), .ref (b + 6), .ref (b + 7), .ref (b + 8), .ref (b + 9), .ref (b + 10), .ref (b + 11), .ref (b + 12), .ref (b + 13), .ref (b + 14), .ref (b + 15), .ref (b + 16), .ref (b + 17), .int 0, .int 0, .int 0, .int 0, .int 0, .ref (b + 18), .ref (b + 19), .ref (b + 20), .ref (b + 21), .ref (b + 22), .null, .null]) hx hb hts i_MO t_MO t_MO_ok n_MO hown hK hP cD hS 0 (xW_at (by omega) (by rw [va_up_ne _ _ (by omega), if_pos rfl])) rfl 39 (by decide) (hts _ wd_739) (fun _ h9 => h9) rfl hin rfl (by decide +kernel) rfl rfl (Nat.le_of_ble_eq_true rfl) d_MO_init_420 (fun H locs hP _ hS => ?_)
  rw [xW_up (lay := cB b) (i := 0)] at hP
  have hP : va_P D xcl (xW 24 (cB b) (fun i => if i = 0 then .inr (6, [.int 0, .ref (b + 1), .ref (b + 2), .ref (b + 3), .ref (b + 4), .int 0, .int 0, .int 0, .int 0, .int 0, .long 0, .int 0, .int (-1), .int 0, .int (-1), .int 0, .ref (b + 5), .ref (b + 6), .ref (b + 7), .ref (b + 8), .ref (b + 9), .ref (b + 10), .ref (b + 11), .ref (b + 12), .ref (b + 13), .ref (b + 14), .ref (b + 15), .ref (b + 16), .ref (b + 17), .int 0, .int 0, .int 0, .int 0, .int 0, .ref (b + 18), .ref (b + 19), .ref (b + 20), .ref (b + 21), .ref (b + 22), .ref (b + 23), .null]) else mcell (cB b) cA i (M0.1 i) (M0.2 i))) H := cTo (n := 24) hP (fun i hi => by
    by_cases h1 : i = 0
    · subst h1; rw [va_up_self, if_pos rfl]; rfl
    · rw [va_up_ne _ _ h1, if_neg h1]
      by_cases h2 : i = 23
      · subst h2; rw [va_up_self, mc_23]; rw [(by funext q; simp [M0] : M0.1 23 = fun _ => 0)]
      · rw [va_up_ne _ _ h2, if_neg h1])
  refine lv_aload_n hx hb d_MO_init_423 rfl (lv_at hl 0 rfl) ?_
  refine lv_bipush (v := (16 : Int32)) hx hb d_MO_init_424 (by decide) ?_
  refine va_newa (atype := .int) (N' := 16) (a0 := (16, .inl (fun _ => 0))) hx hb (hts _ wd_107) rfl hK hP cD hS hA (fun _ => rfl) (by decide) (by decide +kernel) (by decide) (by decide) (by decide) d_MO_init_426 (fun q c1 H hK1 hP hD hS => ?_)
  have e1 := tys_one hK1 2 rfl
  subst e1
  clear hK1
  refine W.size (fun hsz => ?_)
  have e1 := cNext hP hD (by omega)
  subst e1
  clear hD hsz
  rw [cPush] at hP
  refine va_putF (v := .ref (b + 24)) (ty := .array .int) (C := R_MO) (T := F_MO) (N := 41) (a := b + 0) (ci := 6) (fs := [.int 0, .ref (b + 1), .ref (b + 2), .ref (b + 3), .ref (b + 4), .int 0, .int 0, .int 0, .int 0, .int 0, .long 0, .int 0, .int (-1), .int 0, .int (-1), .int 0, .ref (b + 5), .ref (b + 6), .ref (b + 7), .ref (b + 8), .ref (b + 9), .ref (b + 10), .ref (b + 11), .ref (b + 12), .ref (b + 13), .ref (b + 14), .ref (b + 15), .ref (b + 16), .ref (b + 17), .int 0, .int 0, .int 0, .int 0, .int 0, .ref (b + 18), .ref (b + 19), .ref (b + 20), .ref (b + 21), .ref (b + 22), .ref (b + 23), .null]) hx hb hts i_MO t_MO t_MO_ok n_MO hown hK hP cD hS 0 (xW_at (by omega) (by rw [va_up_ne _ _ (by omega), if_pos rfl])) rfl 40 (by decide) (hts _ wd_740) (fun _ h9 => h9) rfl hin rfl (by decide +kernel) rfl rfl (Nat.le_of_ble_eq_true rfl) d_MO_init_428 (fun H locs hP _ hS => ?_)
  rw [xW_up (lay := cB b) (i := 0)] at hP
  have hP : va_P D xcl (xW 25 (cB b) (fun i => if i = 0 then .inr (6, [.int 0, .ref (b + 1), .ref (b + 2), .ref (b + 3), .ref (b + 4), .int 0, .int 0, .int 0, .int 0, .int 0, .long 0, .int 0, .int (-1), .int 0, .int (-1), .int 0, .ref (b + 5), .ref (b + 6), .ref (b + 7), .ref (b + 8), .ref (b + 9), .ref (b + 10), .ref (b + 11), .ref (b + 12), .ref (b + 13), .ref (b + 14), .ref (b + 15), .ref (b + 16), .ref (b + 17), .int 0, .int 0, .int 0, .int 0, .int 0, .ref (b + 18), .ref (b + 19), .ref (b + 20), .ref (b + 21), .ref (b + 22), .ref (b + 23), .ref (b + 24)]) else mcell (cB b) cA i (M0.1 i) (M0.2 i))) H := cTo (n := 25) hP (fun i hi => by
    by_cases h1 : i = 0
    · subst h1; rw [va_up_self, if_pos rfl]; rfl
    · rw [va_up_ne _ _ h1, if_neg h1]
      by_cases h2 : i = 24
      · subst h2; rw [va_up_self, mc_24]; rw [(by funext q; simp [M0] : M0.1 24 = fun _ => 0)]
      · rw [va_up_ne _ _ h2, if_neg h1])
  have hP : va_P D xcl (xW 25 (cB b) (fun i => mcell (cB b) cA i (M0.1 i) (M0.2 i))) H := cTo (n := 25) hP (fun i hi => by
    by_cases h1 : i = 0
    · subst h1; rw [if_pos rfl, mc_0]; rfl
    · rw [if_neg h1])
  refine W.widen (k := 24) (n := 4886) (by decide) (by decide) ?_
  refine W.size (fun hsz => ?_)
  have hz2 := cSize hP (by omega) (by omega)
  exact W.vret hx hb hr (fun t ht hW => ⟨⟨(), rfl, trivial, by rw [ht]; exact hz2, by rw [ht]; exact hP⟩, hS.F ht⟩) hS.2.2 d_MO_init_431
