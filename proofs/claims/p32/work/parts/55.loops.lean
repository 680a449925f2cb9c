theorem cnt (N : Nat) (I : Nat → pM → Prop) (P : Nat → pM → Prop) (hN : ∀ M, I N M → P N M) (hs : ∀ k M, k < N → I k M → (∀ M', I (k + 1) M' → P (k + 1) M') → P k M) : ∀ k M, k ≤ N → I k M → P k M := by
  have h : ∀ m k M, k + m = N → I k M → P k M := by
    intro m
    induction m with
    | zero => intro k M hk hi; have : k = N := by omega
              subst this; exact hN M hi
    | succ m ih => intro k M hk hi; exact hs k M (by omega) hi (fun M' h' => ih (k + 1) M' (by omega) h')
  intro k M hk hi
  exact h (N - k) k M (by omega) hi
theorem w32_s {k : Nat} (h : k < 2000000000) : w32 ((k : Int) + 1) = ((k + 1 : Nat) : Int) := by unfold w32; omega
theorem ob9_0 : ob 119 0 = 11 := rfl
theorem aw9_1 : alw 119 1 0 = 1900 := rfl
theorem al9_1 {M : pM} : aln M 119 1 0 = 1900 := al_1 (by decide)
theorem ob9_2 : ob 119 2 = 7 := rfl
theorem ob9_3 : ob 119 3 = 4 := rfl
theorem aw9_4 : alw 119 4 0 = 64 := rfl
theorem al9_4 {M : pM} : aln M 119 4 0 = 64 := al_4 (by decide)
theorem aw9_5 : alw 119 5 0 = 48 := rfl
theorem al9_5 {M : pM} : aln M 119 5 0 = 48 := al_5 (by decide)
theorem aw9_6 : alw 119 6 0 = 6 := rfl
theorem al9_6 {M : pM} : aln M 119 6 0 = 6 := al_6 (by decide)
theorem aw9_7 : alw 119 7 0 = 6 := rfl
theorem al9_7 {M : pM} : aln M 119 7 0 = 6 := al_7 (by decide)
theorem aw9_8 : alw 119 8 0 = 48 := rfl
theorem al9_8 {M : pM} : aln M 119 8 0 = 48 := al_8 (by decide)
theorem aw9_9 : alw 119 9 0 = 60 := rfl
theorem al9_9 {M : pM} : aln M 119 9 0 = 60 := al_9 (by decide)
theorem aw9_10 : alw 119 10 1 = 4 := rfl
theorem aw9_11 : alw 119 11 0 = 20 := rfl
theorem al9_11 {M : pM} : aln M 119 11 0 = 20 := al_11 (by decide)
theorem ob9_12 : ob 119 12 = 4 := rfl
theorem aw9_13 : alw 119 13 0 = 64 := rfl
theorem al9_13 {M : pM} : aln M 119 13 0 = 64 := al_13 (by decide)
theorem aw9_14 : alw 119 14 0 = 48 := rfl
theorem al9_14 {M : pM} : aln M 119 14 0 = 48 := al_14 (by decide)
theorem aw9_15 : alw 119 15 0 = 6 := rfl
theorem al9_15 {M : pM} : aln M 119 15 0 = 6 := al_15 (by decide)
theorem aw9_16 : alw 119 16 0 = 6 := rfl
theorem al9_16 {M : pM} : aln M 119 16 0 = 6 := al_16 (by decide)
theorem aw9_17 : alw 119 17 0 = 48 := rfl
theorem al9_17 {M : pM} : aln M 119 17 0 = 48 := al_17 (by decide)
theorem aw9_18 : alw 119 18 0 = 60 := rfl
theorem al9_18 {M : pM} : aln M 119 18 0 = 60 := al_18 (by decide)
theorem aw9_19 : alw 119 19 1 = 4 := rfl
theorem aw9_20 : alw 119 20 0 = 20 := rfl
theorem al9_20 {M : pM} : aln M 119 20 0 = 20 := al_20 (by decide)
theorem ob9_21 : ob 119 21 = 5 := rfl
theorem ob9_22 : ob 119 22 = 3 := rfl
theorem aw9_23 : alw 119 23 0 = 512 := rfl
theorem al9_23 {M : pM} : aln M 119 23 0 = 512 := al_23 (by decide)
theorem aw9_24 : alw 119 24 0 = 512 := rfl
theorem al9_24 {M : pM} : aln M 119 24 0 = 512 := al_24 (by decide)
theorem aw9_25 : alw 119 25 0 = 61 := rfl
theorem al9_25 {M : pM} : aln M 119 25 0 = 61 := al_25 (by decide)
theorem ob9_26 : ob 119 26 = 0 := rfl
theorem aw9_27 : alw 119 27 0 = 4 := rfl
theorem al9_27 {M : pM} : aln M 119 27 0 = 4 := al_27 (by decide)
theorem ob9_28 : ob 119 28 = 1 := rfl
theorem aw9_29 : alw 119 29 1 = 9472 := rfl
theorem aw9_30 : alw 119 30 0 = 512 := rfl
theorem al9_30 {M : pM} : aln M 119 30 0 = 512 := al_30 (by decide)
theorem aw9_31 : alw 119 31 0 = 24 := rfl
theorem al9_31 {M : pM} : aln M 119 31 0 = 24 := al_31 (by decide)
theorem aw9_32 : alw 119 32 0 = 36 := rfl
theorem al9_32 {M : pM} : aln M 119 32 0 = 36 := al_32 (by decide)
theorem ob9_33 : ob 119 33 = 0 := rfl
theorem aw9_34 : alw 119 34 0 = 4 := rfl
theorem al9_34 {M : pM} : aln M 119 34 0 = 4 := al_34 (by decide)
theorem ob9_35 : ob 119 35 = 2 := rfl
theorem aw9_36 : alw 119 36 0 = 4 := rfl
theorem al9_36 {M : pM} : aln M 119 36 0 = 4 := al_36 (by decide)
theorem aw9_37 : alw 119 37 0 = 30 := rfl
theorem al9_37 {M : pM} : aln M 119 37 0 = 30 := al_37 (by decide)
theorem aw9_38 : alw 119 38 0 = 30 := rfl
theorem al9_38 {M : pM} : aln M 119 38 0 = 30 := al_38 (by decide)
theorem aw9_39 : alw 119 39 0 = 30 := rfl
theorem al9_39 {M : pM} : aln M 119 39 0 = 30 := al_39 (by decide)
theorem ob9_40 : ob 119 40 = 9 := rfl
theorem aw9_41 : alw 119 41 0 = 8 := rfl
theorem al9_41 {M : pM} : aln M 119 41 0 = 8 := al_41 (by decide)
theorem aw9_42 : alw 119 42 0 = 200 := rfl
theorem al9_42 {M : pM} : aln M 119 42 0 = 200 := al_42 (by decide)
theorem aw9_43 : alw 119 43 0 = 200 := rfl
theorem al9_43 {M : pM} : aln M 119 43 0 = 200 := al_43 (by decide)
theorem aw9_44 : alw 119 44 0 = 200 := rfl
theorem al9_44 {M : pM} : aln M 119 44 0 = 200 := al_44 (by decide)
theorem aw9_45 : alw 119 45 0 = 200 := rfl
theorem al9_45 {M : pM} : aln M 119 45 0 = 200 := al_45 (by decide)
theorem aw9_46 : alw 119 46 0 = 200 := rfl
theorem al9_46 {M : pM} : aln M 119 46 0 = 200 := al_46 (by decide)
theorem aw9_47 : alw 119 47 0 = 200 := rfl
theorem al9_47 {M : pM} : aln M 119 47 0 = 200 := al_47 (by decide)
theorem ob9_48 : ob 119 48 = 8 := rfl
theorem aw9_49 : alw 119 49 0 = 36 := rfl
theorem al9_49 {M : pM} : aln M 119 49 0 = 36 := al_49 (by decide)
theorem aw9_50 : alw 119 50 0 = 36 := rfl
theorem al9_50 {M : pM} : aln M 119 50 0 = 36 := al_50 (by decide)
theorem aw9_51 : alw 119 51 0 = 36 := rfl
theorem al9_51 {M : pM} : aln M 119 51 0 = 36 := al_51 (by decide)
theorem aw9_52 : alw 119 52 0 = 36 := rfl
theorem al9_52 {M : pM} : aln M 119 52 0 = 36 := al_52 (by decide)
theorem ob9_53 : ob 119 53 = 6 := rfl
theorem aw9_54 : alw 119 54 0 = 64 := rfl
theorem al9_54 {M : pM} : aln M 119 54 0 = 64 := al_54 (by decide)
theorem ob9_55 : ob 119 55 = 10 := rfl
theorem aw9_56 : alw 119 56 0 = 9 := rfl
theorem al9_56 {M : pM} : aln M 119 56 0 = 9 := al_56 (by decide)
theorem aw9_57 : alw 119 57 0 = 64 := rfl
theorem al9_57 {M : pM} : aln M 119 57 0 = 64 := al_57 (by decide)
theorem aw9_58 : alw 119 58 0 = 3 := rfl
theorem al9_58 {M : pM} : aln M 119 58 0 = 3 := al_58 (by decide)
theorem aw9_59 : alw 119 59 0 = 9 := rfl
theorem al9_59 {M : pM} : aln M 119 59 0 = 9 := al_59 (by decide)
theorem aw9_60 : alw 119 60 0 = 9 := rfl
theorem al9_60 {M : pM} : aln M 119 60 0 = 9 := al_60 (by decide)
theorem ob9_61 : ob 119 61 = 12 := rfl
theorem aw9_62 : alw 119 62 2 = 1920 := rfl
theorem aw9_63 : alw 119 63 2 = 1900 := rfl
theorem aw9_64 : alw 119 64 0 = 2 := rfl
theorem al9_64 {M : pM} : aln M 119 64 0 = 2 := al_64 (by decide)
theorem aw9_65 : alw 119 65 0 = 2 := rfl
theorem al9_65 {M : pM} : aln M 119 65 0 = 2 := al_65 (by decide)
theorem aw9_66 : alw 119 66 0 = 2 := rfl
theorem al9_66 {M : pM} : aln M 119 66 0 = 2 := al_66 (by decide)
theorem aw9_67 : alw 119 67 0 = 2 := rfl
theorem al9_67 {M : pM} : aln M 119 67 0 = 2 := al_67 (by decide)
theorem aw9_68 : alw 119 68 0 = 2 := rfl
theorem al9_68 {M : pM} : aln M 119 68 0 = 2 := al_68 (by decide)
theorem aw9_69 : alw 119 69 0 = 128 := rfl
theorem al9_69 {M : pM} : aln M 119 69 0 = 128 := al_69 (by decide)
theorem aw9_70 : alw 119 70 0 = 96 := rfl
theorem al9_70 {M : pM} : aln M 119 70 0 = 96 := al_70 (by decide)
theorem aw9_71 : alw 119 71 0 = 12 := rfl
theorem al9_71 {M : pM} : aln M 119 71 0 = 12 := al_71 (by decide)
theorem aw9_72 : alw 119 72 0 = 12 := rfl
theorem al9_72 {M : pM} : aln M 119 72 0 = 12 := al_72 (by decide)
theorem aw9_73 : alw 119 73 0 = 12 := rfl
theorem al9_73 {M : pM} : aln M 119 73 0 = 12 := al_73 (by decide)
theorem aw9_74 : alw 119 74 0 = 24 := rfl
theorem al9_74 {M : pM} : aln M 119 74 0 = 24 := al_74 (by decide)
theorem aw9_75 : alw 119 75 0 = 24 := rfl
theorem al9_75 {M : pM} : aln M 119 75 0 = 24 := al_75 (by decide)
theorem aw9_76 : alw 119 76 0 = 24 := rfl
theorem al9_76 {M : pM} : aln M 119 76 0 = 24 := al_76 (by decide)
theorem aw9_77 : alw 119 77 0 = 24 := rfl
theorem al9_77 {M : pM} : aln M 119 77 0 = 24 := al_77 (by decide)
theorem aw9_78 : alw 119 78 0 = 40 := rfl
theorem al9_78 {M : pM} : aln M 119 78 0 = 40 := al_78 (by decide)
theorem aw9_79 : alw 119 79 0 = 40 := rfl
theorem al9_79 {M : pM} : aln M 119 79 0 = 40 := al_79 (by decide)
theorem aw9_80 : alw 119 80 0 = 40 := rfl
theorem al9_80 {M : pM} : aln M 119 80 0 = 40 := al_80 (by decide)
theorem aw9_81 : alw 119 81 0 = 32 := rfl
theorem al9_81 {M : pM} : aln M 119 81 0 = 32 := al_81 (by decide)
theorem aw9_82 : alw 119 82 0 = 8 := rfl
theorem al9_82 {M : pM} : aln M 119 82 0 = 8 := al_82 (by decide)
theorem aw9_83 : alw 119 83 1 = 8 := rfl
theorem aw9_84 : alw 119 84 3 = 8 := rfl
theorem aw9_85 : alw 119 85 3 = 8 := rfl
theorem aw9_86 : alw 119 86 3 = 128 := rfl
theorem aw9_87 : alw 119 87 0 = 4 := rfl
theorem al9_87 {M : pM} : aln M 119 87 0 = 4 := al_87 (by decide)
theorem aw9_88 : alw 119 88 0 = 388352 := rfl
theorem al9_88 {M : pM} : aln M 119 88 0 = 388352 := al_88 (by decide)
theorem aw9_89 : alw 119 89 0 = 36 := rfl
theorem al9_89 {M : pM} : aln M 119 89 0 = 36 := al_89 (by decide)
theorem aw9_90 : alw 119 90 3 = 97088 := rfl
theorem aw9_91 : alw 119 91 0 = 30 := rfl
theorem al9_91 {M : pM} : aln M 119 91 0 = 30 := al_91 (by decide)
theorem aw9_92 : alw 119 92 0 = 30 := rfl
theorem al9_92 {M : pM} : aln M 119 92 0 = 30 := al_92 (by decide)
theorem aw9_93 : alw 119 93 0 = 30 := rfl
theorem al9_93 {M : pM} : aln M 119 93 0 = 30 := al_93 (by decide)
theorem aw9_94 : alw 119 94 3 = 30 := rfl
theorem aw9_95 : alw 119 95 0 = 5 := rfl
theorem al9_95 {M : pM} : aln M 119 95 0 = 5 := al_95 (by decide)
theorem aw9_96 : alw 119 96 0 = 8 := rfl
theorem al9_96 {M : pM} : aln M 119 96 0 = 8 := al_96 (by decide)
theorem aw9_97 : alw 119 97 0 = 200 := rfl
theorem al9_97 {M : pM} : aln M 119 97 0 = 200 := al_97 (by decide)
theorem aw9_98 : alw 119 98 0 = 200 := rfl
theorem al9_98 {M : pM} : aln M 119 98 0 = 200 := al_98 (by decide)
theorem aw9_99 : alw 119 99 0 = 200 := rfl
theorem al9_99 {M : pM} : aln M 119 99 0 = 200 := al_99 (by decide)
theorem aw9_100 : alw 119 100 0 = 200 := rfl
theorem al9_100 {M : pM} : aln M 119 100 0 = 200 := al_100 (by decide)
theorem aw9_101 : alw 119 101 0 = 200 := rfl
theorem al9_101 {M : pM} : aln M 119 101 0 = 200 := al_101 (by decide)
theorem aw9_102 : alw 119 102 0 = 200 := rfl
theorem al9_102 {M : pM} : aln M 119 102 0 = 200 := al_102 (by decide)
theorem aw9_103 : alw 119 103 0 = 36 := rfl
theorem al9_103 {M : pM} : aln M 119 103 0 = 36 := al_103 (by decide)
theorem aw9_104 : alw 119 104 0 = 36 := rfl
theorem al9_104 {M : pM} : aln M 119 104 0 = 36 := al_104 (by decide)
theorem aw9_105 : alw 119 105 0 = 36 := rfl
theorem al9_105 {M : pM} : aln M 119 105 0 = 36 := al_105 (by decide)
theorem aw9_106 : alw 119 106 0 = 36 := rfl
theorem al9_106 {M : pM} : aln M 119 106 0 = 36 := al_106 (by decide)
theorem aw9_107 : alw 119 107 0 = 4 := rfl
theorem al9_107 {M : pM} : aln M 119 107 0 = 4 := al_107 (by decide)
theorem aw9_108 : alw 119 108 0 = 600 := rfl
theorem al9_108 {M : pM} : aln M 119 108 0 = 600 := al_108 (by decide)
theorem aw9_109 : alw 119 109 0 = 600 := rfl
theorem al9_109 {M : pM} : aln M 119 109 0 = 600 := al_109 (by decide)
theorem aw9_110 : alw 119 110 0 = 2 := rfl
theorem al9_110 {M : pM} : aln M 119 110 0 = 2 := al_110 (by decide)
theorem aw9_111 : alw 119 111 0 = 80 := rfl
theorem al9_111 {M : pM} : aln M 119 111 0 = 80 := al_111 (by decide)
theorem aw9_112 : alw 119 112 0 = 80 := rfl
theorem al9_112 {M : pM} : aln M 119 112 0 = 80 := al_112 (by decide)
theorem aw9_113 : alw 119 113 0 = 80 := rfl
theorem al9_113 {M : pM} : aln M 119 113 0 = 80 := al_113 (by decide)
theorem aw9_114 : alw 119 114 0 = 4096 := rfl
theorem al9_114 {M : pM} : aln M 119 114 0 = 4096 := al_114 (by decide)
theorem aw9_115 : alw 119 115 0 = 9 := rfl
theorem al9_115 {M : pM} : aln M 119 115 0 = 9 := al_115 (by decide)
theorem aw9_116 : alw 119 116 0 = 9 := rfl
theorem al9_116 {M : pM} : aln M 119 116 0 = 9 := al_116 (by decide)
theorem aw9_117 : alw 119 117 0 = 9 := rfl
theorem al9_117 {M : pM} : aln M 119 117 0 = 9 := al_117 (by decide)
theorem aw9_118 : alw 119 118 0 = 3 := rfl
theorem al9_118 {M : pM} : aln M 119 118 0 = 3 := al_118 (by decide)
def fi2 (M : pM) (k i len : Nat) (v : Int) : pM := fun a b => if a = k ∧ i ≤ b ∧ b < len then v else M a b
theorem fill_loop {O : pO} {n0 n k len : Nat} {v : Int} {Q : pQ} (hk : alw n k 0 = (len : Int)) (hl : len < 1000000) : ∀ m i M, i + m = len → J O 322 n0 Q 5 [some (vr (k + 1)), some (vi v), some (vi (i : Int)), some (vi (len : Int))] [] n M = (n = n0 ∧ Q none (fi2 M k i len v)) := by
  intro m
  induction m with
  | zero =>
    intro i M hi
    have hi : i = len := by omega
    subst hi
    have e : fi2 M k i i v = M := by funext a b; unfold fi2; rw [if_neg (by omega)]
    rw [e]
    rw [s_322_5]
    simp only [s_322_0, s_322_1, s_322_2, s_322_4, s_322_6, s_322_7, s_322_10, s_322_11, s_322_12, s_322_13, s_322_14, s_322_17, s_322_20, Int.le_refl, kI_eq, kL_eq, kV_eq, stk_n, stk_i, stk_r, stk_l, stA, zrA, rowA, filA, Nat.reduceAdd, Nat.reduceSub, Nat.reduceEqDiff, Nat.reduceLeDiff, Nat.reduceLT, Int.reduceToNat, Int.reduceNeg, Int.reduceLT, Int.reduceLE, Int.reduceEq, Int.reduceAdd, Int.reduceSub, Int.reduceMul, true_and, and_true, false_and, and_false, if_true, if_false, not_true_eq_false, not_false_eq_true, true_implies, false_implies, forall_const, and_self, eq_self, reduceIte, Int.toNat_natCast, true_or, or_true, false_or, or_false, Nat.zero_add, Nat.add_zero, Nat.le_refl]
  | succ m ih =>
    intro i M hi
    have h1 : ¬ ((len : Int) ≤ (i : Int)) := by omega
    have h2 : (i : Int) < (len : Int) := by omega
    have h3 : (0 : Int) ≤ (i : Int) := by omega
    have e := w32_s (k := i) (by omega)
    rw [s_322_5]
    simp only [s_322_0, s_322_1, s_322_2, s_322_4, s_322_6, s_322_7, s_322_10, s_322_11, s_322_12, s_322_13, s_322_14, s_322_17, s_322_20, h1, h2, h3, e, hk, kI_eq, kL_eq, kV_eq, stk_n, stk_i, stk_r, stk_l, stA, zrA, rowA, filA, Nat.reduceAdd, Nat.reduceSub, Nat.reduceEqDiff, Nat.reduceLeDiff, Nat.reduceLT, Int.reduceToNat, Int.reduceNeg, Int.reduceLT, Int.reduceLE, Int.reduceEq, Int.reduceAdd, Int.reduceSub, Int.reduceMul, true_and, and_true, false_and, and_false, if_true, if_false, not_true_eq_false, not_false_eq_true, true_implies, false_implies, forall_const, and_self, eq_self, reduceIte, Int.toNat_natCast, true_or, or_true, false_or, or_false, Nat.zero_add, Nat.add_zero, Nat.le_refl]
    rw [ih (i + 1) (st M k i v) (by omega)]
    have e2 : fi2 (st M k i v) k (i + 1) len v = fi2 M k i len v := by
      funext a b
      unfold fi2 st
      by_cases ha : a = k
      · subst ha
        by_cases hb : b = i
        · subst hb; simp; omega
        · by_cases hc : i + 1 ≤ b ∧ b < len
          · rw [if_pos ⟨rfl, hc⟩, if_pos ⟨rfl, by omega, by omega⟩]
          · rw [if_neg (by omega), if_neg (by omega), if_neg (by omega)]
      · rw [if_neg (fun q => ha q.1), if_neg (fun q => ha q.1), if_neg (fun q => ha q.1)]
    rw [e2]
theorem fill_eq {O : pO} {n0 n k : Nat} {v : Int} {Q : pQ} {M : pM} (h0 : 0 ≤ alw n k 0) (h1 : alw n k 0 < 1000000) (hk : k < 1000) : J O 322 n0 Q 0 [some (vr (k + 1)), some (vi v), none, none] [] n M = (n = n0 ∧ Q none (fil M k (alw n k 0).toNat v)) := by
  obtain ⟨len, -, -, hl⟩ := alw_of h0
  have e := fill_loop (O := O) (n0 := n0) (v := v) (Q := Q) hl (by omega) len 0 M (by omega)
  rw [s_322_0, s_322_1, s_322_2, s_322_3 0 hk hl (by omega), s_322_4]
  have e0 : ((0 : Nat) : Int) = 0 := rfl
  rw [e0] at e
  rw [e]
  have e2 : fi2 M k 0 len v = fil M k (alw n k 0).toNat v := by
    funext a b
    unfold fi2 fil
    rw [hl, Int.toNat_natCast]
    by_cases h : a = k ∧ b < len
    · rw [if_pos ⟨h.1, by omega, h.2⟩, if_pos h]
    · rw [if_neg (fun q => h ⟨q.1, q.2.2⟩), if_neg h]
  rw [e2]
