def frC : List (Nat × Nat × Int) := [(0, 0, 2), (0, 1, 0), (0, 2, 3), (0, 3, 4), (0, 4, 13), (0, 5, 22), (0, 6, 23), (0, 7, 0), (0, 8, -1), (0, 9, 27), (0, 10, 29), (0, 11, 36), (0, 12, 41), (0, 13, 49), (0, 14, 54), (0, 15, 56), (2, 0, 2), (2, 1, 0), (2, 2, 0), (2, 3, 0), (2, 4, 0), (2, 5, 0), (2, 6, 0), (2, 7, 0), (2, 8, 0), (3, 0, 5), (3, 1, 0), (3, 2, 6), (3, 3, 0), (3, 4, 7), (3, 5, 8), (3, 6, 9), (3, 7, 0), (3, 8, 0), (3, 9, 10), (3, 10, 0), (3, 11, 11), (3, 12, 12), (3, 13, 0), (3, 14, 0), (12, 0, 14), (12, 1, 0), (12, 2, 15), (12, 3, 0), (12, 4, 16), (12, 5, 17), (12, 6, 18), (12, 7, 0), (12, 8, 0), (12, 9, 19), (12, 10, 0), (12, 11, 20), (12, 12, 21), (12, 13, 0), (12, 14, 0), (21, 0, 3), (21, 1, 13), (22, 0, 3), (22, 1, 24), (22, 2, 0), (22, 3, 25), (22, 4, 0), (22, 5, 0), (22, 6, 26), (26, 0, 28), (26, 1, 0), (26, 2, 0), (28, 0, 30), (28, 1, 31), (28, 2, 32), (28, 3, 33), (28, 4, 34), (28, 5, 0), (28, 6, 0), (28, 7, 4), (28, 8, 27), (28, 9, 0), (28, 10, 0), (28, 11, 0), (28, 12, 0), (28, 13, 0), (28, 14, 0), (28, 15, 0), (28, 16, 0), (33, 0, 35), (33, 1, 0), (33, 2, 0), (35, 0, 1), (35, 1, 1), (35, 2, 2), (35, 3, 0), (35, 4, 37), (35, 5, 38), (35, 6, 39), (35, 7, 40), (35, 8, 0), (40, 0, 42), (40, 1, 0), (40, 2, 43), (40, 3, 44), (40, 4, 45), (40, 5, 46), (40, 6, 47), (40, 7, 48), (40, 8, 0), (40, 9, 0), (48, 0, 50), (48, 1, 51), (48, 2, 52), (48, 3, 53), (48, 4, 0), (48, 5, 0), (48, 6, 0), (53, 0, 55), (55, 0, 57), (55, 1, 0), (55, 2, 58), (55, 3, 59), (55, 4, 60), (55, 5, 61), (55, 6, 0)]
/-- a new house: what its objects hold, and those of its rows that are read -/
def FrC (M : pM) : Prop := (∀ q ∈ frC, M q.1 q.2.1 = q.2.2) ∧ (∀ i, i < 6 → M 6 i = -1 ∧ M 7 i = -1) ∧ (∀ i, M 4 i = 0 ∧ M 5 i = 0) ∧ ∀ i, M 36 i = 0
theorem fc_0_0 {M : pM} (h : FrC M) : M 0 0 = 2 := h.1 (0, 0, 2) (by decide)
theorem fc_0_1 {M : pM} (h : FrC M) : M 0 1 = 0 := h.1 (0, 1, 0) (by decide)
theorem fc_0_2 {M : pM} (h : FrC M) : M 0 2 = 3 := h.1 (0, 2, 3) (by decide)
theorem fc_0_3 {M : pM} (h : FrC M) : M 0 3 = 4 := h.1 (0, 3, 4) (by decide)
theorem fc_0_4 {M : pM} (h : FrC M) : M 0 4 = 13 := h.1 (0, 4, 13) (by decide)
theorem fc_0_5 {M : pM} (h : FrC M) : M 0 5 = 22 := h.1 (0, 5, 22) (by decide)
theorem fc_0_6 {M : pM} (h : FrC M) : M 0 6 = 23 := h.1 (0, 6, 23) (by decide)
theorem fc_0_7 {M : pM} (h : FrC M) : M 0 7 = 0 := h.1 (0, 7, 0) (by decide)
theorem fc_0_8 {M : pM} (h : FrC M) : M 0 8 = -1 := h.1 (0, 8, -1) (by decide)
theorem fc_0_9 {M : pM} (h : FrC M) : M 0 9 = 27 := h.1 (0, 9, 27) (by decide)
theorem fc_0_10 {M : pM} (h : FrC M) : M 0 10 = 29 := h.1 (0, 10, 29) (by decide)
theorem fc_0_11 {M : pM} (h : FrC M) : M 0 11 = 36 := h.1 (0, 11, 36) (by decide)
theorem fc_0_12 {M : pM} (h : FrC M) : M 0 12 = 41 := h.1 (0, 12, 41) (by decide)
theorem fc_0_13 {M : pM} (h : FrC M) : M 0 13 = 49 := h.1 (0, 13, 49) (by decide)
theorem fc_0_14 {M : pM} (h : FrC M) : M 0 14 = 54 := h.1 (0, 14, 54) (by decide)
theorem fc_0_15 {M : pM} (h : FrC M) : M 0 15 = 56 := h.1 (0, 15, 56) (by decide)
theorem fc_2_0 {M : pM} (h : FrC M) : M 2 0 = 2 := h.1 (2, 0, 2) (by decide)
theorem fc_2_1 {M : pM} (h : FrC M) : M 2 1 = 0 := h.1 (2, 1, 0) (by decide)
theorem fc_2_2 {M : pM} (h : FrC M) : M 2 2 = 0 := h.1 (2, 2, 0) (by decide)
theorem fc_2_3 {M : pM} (h : FrC M) : M 2 3 = 0 := h.1 (2, 3, 0) (by decide)
theorem fc_2_4 {M : pM} (h : FrC M) : M 2 4 = 0 := h.1 (2, 4, 0) (by decide)
theorem fc_2_5 {M : pM} (h : FrC M) : M 2 5 = 0 := h.1 (2, 5, 0) (by decide)
theorem fc_2_6 {M : pM} (h : FrC M) : M 2 6 = 0 := h.1 (2, 6, 0) (by decide)
theorem fc_2_7 {M : pM} (h : FrC M) : M 2 7 = 0 := h.1 (2, 7, 0) (by decide)
theorem fc_2_8 {M : pM} (h : FrC M) : M 2 8 = 0 := h.1 (2, 8, 0) (by decide)
theorem fc_3_0 {M : pM} (h : FrC M) : M 3 0 = 5 := h.1 (3, 0, 5) (by decide)
theorem fc_3_1 {M : pM} (h : FrC M) : M 3 1 = 0 := h.1 (3, 1, 0) (by decide)
theorem fc_3_2 {M : pM} (h : FrC M) : M 3 2 = 6 := h.1 (3, 2, 6) (by decide)
theorem fc_3_3 {M : pM} (h : FrC M) : M 3 3 = 0 := h.1 (3, 3, 0) (by decide)
theorem fc_3_4 {M : pM} (h : FrC M) : M 3 4 = 7 := h.1 (3, 4, 7) (by decide)
theorem fc_3_5 {M : pM} (h : FrC M) : M 3 5 = 8 := h.1 (3, 5, 8) (by decide)
theorem fc_3_6 {M : pM} (h : FrC M) : M 3 6 = 9 := h.1 (3, 6, 9) (by decide)
theorem fc_3_7 {M : pM} (h : FrC M) : M 3 7 = 0 := h.1 (3, 7, 0) (by decide)
theorem fc_3_8 {M : pM} (h : FrC M) : M 3 8 = 0 := h.1 (3, 8, 0) (by decide)
theorem fc_3_9 {M : pM} (h : FrC M) : M 3 9 = 10 := h.1 (3, 9, 10) (by decide)
theorem fc_3_10 {M : pM} (h : FrC M) : M 3 10 = 0 := h.1 (3, 10, 0) (by decide)
theorem fc_3_11 {M : pM} (h : FrC M) : M 3 11 = 11 := h.1 (3, 11, 11) (by decide)
theorem fc_3_12 {M : pM} (h : FrC M) : M 3 12 = 12 := h.1 (3, 12, 12) (by decide)
theorem fc_3_13 {M : pM} (h : FrC M) : M 3 13 = 0 := h.1 (3, 13, 0) (by decide)
theorem fc_3_14 {M : pM} (h : FrC M) : M 3 14 = 0 := h.1 (3, 14, 0) (by decide)
theorem fc_12_0 {M : pM} (h : FrC M) : M 12 0 = 14 := h.1 (12, 0, 14) (by decide)
theorem fc_12_1 {M : pM} (h : FrC M) : M 12 1 = 0 := h.1 (12, 1, 0) (by decide)
theorem fc_12_2 {M : pM} (h : FrC M) : M 12 2 = 15 := h.1 (12, 2, 15) (by decide)
theorem fc_12_3 {M : pM} (h : FrC M) : M 12 3 = 0 := h.1 (12, 3, 0) (by decide)
theorem fc_12_4 {M : pM} (h : FrC M) : M 12 4 = 16 := h.1 (12, 4, 16) (by decide)
theorem fc_12_5 {M : pM} (h : FrC M) : M 12 5 = 17 := h.1 (12, 5, 17) (by decide)
theorem fc_12_6 {M : pM} (h : FrC M) : M 12 6 = 18 := h.1 (12, 6, 18) (by decide)
theorem fc_12_7 {M : pM} (h : FrC M) : M 12 7 = 0 := h.1 (12, 7, 0) (by decide)
theorem fc_12_8 {M : pM} (h : FrC M) : M 12 8 = 0 := h.1 (12, 8, 0) (by decide)
theorem fc_12_9 {M : pM} (h : FrC M) : M 12 9 = 19 := h.1 (12, 9, 19) (by decide)
theorem fc_12_10 {M : pM} (h : FrC M) : M 12 10 = 0 := h.1 (12, 10, 0) (by decide)
theorem fc_12_11 {M : pM} (h : FrC M) : M 12 11 = 20 := h.1 (12, 11, 20) (by decide)
theorem fc_12_12 {M : pM} (h : FrC M) : M 12 12 = 21 := h.1 (12, 12, 21) (by decide)
theorem fc_12_13 {M : pM} (h : FrC M) : M 12 13 = 0 := h.1 (12, 13, 0) (by decide)
theorem fc_12_14 {M : pM} (h : FrC M) : M 12 14 = 0 := h.1 (12, 14, 0) (by decide)
theorem fc_21_0 {M : pM} (h : FrC M) : M 21 0 = 3 := h.1 (21, 0, 3) (by decide)
theorem fc_21_1 {M : pM} (h : FrC M) : M 21 1 = 13 := h.1 (21, 1, 13) (by decide)
theorem fc_22_0 {M : pM} (h : FrC M) : M 22 0 = 3 := h.1 (22, 0, 3) (by decide)
theorem fc_22_1 {M : pM} (h : FrC M) : M 22 1 = 24 := h.1 (22, 1, 24) (by decide)
theorem fc_22_2 {M : pM} (h : FrC M) : M 22 2 = 0 := h.1 (22, 2, 0) (by decide)
theorem fc_22_3 {M : pM} (h : FrC M) : M 22 3 = 25 := h.1 (22, 3, 25) (by decide)
theorem fc_22_4 {M : pM} (h : FrC M) : M 22 4 = 0 := h.1 (22, 4, 0) (by decide)
theorem fc_22_5 {M : pM} (h : FrC M) : M 22 5 = 0 := h.1 (22, 5, 0) (by decide)
theorem fc_22_6 {M : pM} (h : FrC M) : M 22 6 = 26 := h.1 (22, 6, 26) (by decide)
theorem fc_26_0 {M : pM} (h : FrC M) : M 26 0 = 28 := h.1 (26, 0, 28) (by decide)
theorem fc_26_1 {M : pM} (h : FrC M) : M 26 1 = 0 := h.1 (26, 1, 0) (by decide)
theorem fc_26_2 {M : pM} (h : FrC M) : M 26 2 = 0 := h.1 (26, 2, 0) (by decide)
theorem fc_28_0 {M : pM} (h : FrC M) : M 28 0 = 30 := h.1 (28, 0, 30) (by decide)
theorem fc_28_1 {M : pM} (h : FrC M) : M 28 1 = 31 := h.1 (28, 1, 31) (by decide)
theorem fc_28_2 {M : pM} (h : FrC M) : M 28 2 = 32 := h.1 (28, 2, 32) (by decide)
theorem fc_28_3 {M : pM} (h : FrC M) : M 28 3 = 33 := h.1 (28, 3, 33) (by decide)
theorem fc_28_4 {M : pM} (h : FrC M) : M 28 4 = 34 := h.1 (28, 4, 34) (by decide)
theorem fc_28_5 {M : pM} (h : FrC M) : M 28 5 = 0 := h.1 (28, 5, 0) (by decide)
theorem fc_28_6 {M : pM} (h : FrC M) : M 28 6 = 0 := h.1 (28, 6, 0) (by decide)
theorem fc_28_7 {M : pM} (h : FrC M) : M 28 7 = 4 := h.1 (28, 7, 4) (by decide)
theorem fc_28_8 {M : pM} (h : FrC M) : M 28 8 = 27 := h.1 (28, 8, 27) (by decide)
theorem fc_28_9 {M : pM} (h : FrC M) : M 28 9 = 0 := h.1 (28, 9, 0) (by decide)
theorem fc_28_10 {M : pM} (h : FrC M) : M 28 10 = 0 := h.1 (28, 10, 0) (by decide)
theorem fc_28_11 {M : pM} (h : FrC M) : M 28 11 = 0 := h.1 (28, 11, 0) (by decide)
theorem fc_28_12 {M : pM} (h : FrC M) : M 28 12 = 0 := h.1 (28, 12, 0) (by decide)
theorem fc_28_13 {M : pM} (h : FrC M) : M 28 13 = 0 := h.1 (28, 13, 0) (by decide)
theorem fc_28_14 {M : pM} (h : FrC M) : M 28 14 = 0 := h.1 (28, 14, 0) (by decide)
theorem fc_28_15 {M : pM} (h : FrC M) : M 28 15 = 0 := h.1 (28, 15, 0) (by decide)
theorem fc_28_16 {M : pM} (h : FrC M) : M 28 16 = 0 := h.1 (28, 16, 0) (by decide)
theorem fc_33_0 {M : pM} (h : FrC M) : M 33 0 = 35 := h.1 (33, 0, 35) (by decide)
theorem fc_33_1 {M : pM} (h : FrC M) : M 33 1 = 0 := h.1 (33, 1, 0) (by decide)
theorem fc_33_2 {M : pM} (h : FrC M) : M 33 2 = 0 := h.1 (33, 2, 0) (by decide)
theorem fc_35_0 {M : pM} (h : FrC M) : M 35 0 = 1 := h.1 (35, 0, 1) (by decide)
theorem fc_35_1 {M : pM} (h : FrC M) : M 35 1 = 1 := h.1 (35, 1, 1) (by decide)
theorem fc_35_2 {M : pM} (h : FrC M) : M 35 2 = 2 := h.1 (35, 2, 2) (by decide)
theorem fc_35_3 {M : pM} (h : FrC M) : M 35 3 = 0 := h.1 (35, 3, 0) (by decide)
theorem fc_35_4 {M : pM} (h : FrC M) : M 35 4 = 37 := h.1 (35, 4, 37) (by decide)
theorem fc_35_5 {M : pM} (h : FrC M) : M 35 5 = 38 := h.1 (35, 5, 38) (by decide)
theorem fc_35_6 {M : pM} (h : FrC M) : M 35 6 = 39 := h.1 (35, 6, 39) (by decide)
theorem fc_35_7 {M : pM} (h : FrC M) : M 35 7 = 40 := h.1 (35, 7, 40) (by decide)
theorem fc_35_8 {M : pM} (h : FrC M) : M 35 8 = 0 := h.1 (35, 8, 0) (by decide)
theorem fc_40_0 {M : pM} (h : FrC M) : M 40 0 = 42 := h.1 (40, 0, 42) (by decide)
theorem fc_40_1 {M : pM} (h : FrC M) : M 40 1 = 0 := h.1 (40, 1, 0) (by decide)
theorem fc_40_2 {M : pM} (h : FrC M) : M 40 2 = 43 := h.1 (40, 2, 43) (by decide)
theorem fc_40_3 {M : pM} (h : FrC M) : M 40 3 = 44 := h.1 (40, 3, 44) (by decide)
theorem fc_40_4 {M : pM} (h : FrC M) : M 40 4 = 45 := h.1 (40, 4, 45) (by decide)
theorem fc_40_5 {M : pM} (h : FrC M) : M 40 5 = 46 := h.1 (40, 5, 46) (by decide)
theorem fc_40_6 {M : pM} (h : FrC M) : M 40 6 = 47 := h.1 (40, 6, 47) (by decide)
theorem fc_40_7 {M : pM} (h : FrC M) : M 40 7 = 48 := h.1 (40, 7, 48) (by decide)
theorem fc_40_8 {M : pM} (h : FrC M) : M 40 8 = 0 := h.1 (40, 8, 0) (by decide)
theorem fc_40_9 {M : pM} (h : FrC M) : M 40 9 = 0 := h.1 (40, 9, 0) (by decide)
theorem fc_48_0 {M : pM} (h : FrC M) : M 48 0 = 50 := h.1 (48, 0, 50) (by decide)
theorem fc_48_1 {M : pM} (h : FrC M) : M 48 1 = 51 := h.1 (48, 1, 51) (by decide)
theorem fc_48_2 {M : pM} (h : FrC M) : M 48 2 = 52 := h.1 (48, 2, 52) (by decide)
theorem fc_48_3 {M : pM} (h : FrC M) : M 48 3 = 53 := h.1 (48, 3, 53) (by decide)
theorem fc_48_4 {M : pM} (h : FrC M) : M 48 4 = 0 := h.1 (48, 4, 0) (by decide)
theorem fc_48_5 {M : pM} (h : FrC M) : M 48 5 = 0 := h.1 (48, 5, 0) (by decide)
theorem fc_48_6 {M : pM} (h : FrC M) : M 48 6 = 0 := h.1 (48, 6, 0) (by decide)
theorem fc_53_0 {M : pM} (h : FrC M) : M 53 0 = 55 := h.1 (53, 0, 55) (by decide)
theorem fc_55_0 {M : pM} (h : FrC M) : M 55 0 = 57 := h.1 (55, 0, 57) (by decide)
theorem fc_55_1 {M : pM} (h : FrC M) : M 55 1 = 0 := h.1 (55, 1, 0) (by decide)
theorem fc_55_2 {M : pM} (h : FrC M) : M 55 2 = 58 := h.1 (55, 2, 58) (by decide)
theorem fc_55_3 {M : pM} (h : FrC M) : M 55 3 = 59 := h.1 (55, 3, 59) (by decide)
theorem fc_55_4 {M : pM} (h : FrC M) : M 55 4 = 60 := h.1 (55, 4, 60) (by decide)
theorem fc_55_5 {M : pM} (h : FrC M) : M 55 5 = 61 := h.1 (55, 5, 61) (by decide)
theorem fc_55_6 {M : pM} (h : FrC M) : M 55 6 = 0 := h.1 (55, 6, 0) (by decide)
set_option maxHeartbeats 4000000 in
theorem fl_loop {r n0 : Nat} {Q : pQ} (M0 : pM) (hg : M0 28 1 = 31) (K : ∀ X : Nat → Int, n0 = 29 ∧ Q none (row M0 30 X)) : J (OJ (r + 1)) 7 n0 Q 61 [some (vr 29), some (vr 4), some (vr 27), some (vi 0)] [] 35 M0 := by
  refine cnt 512 (fun _ M' => ∀ c, c ≠ 30 → M' c = M0 c) (fun k M' => J (OJ (r + 1)) 7 n0 Q 61 [some (vr 29), some (vr 4), some (vr 27), some (vi (k : Int))] [] 35 M') ?_ ?_ 0 M0 (by omega) (fun _ _ => rfl)
  · intro M' hi
    have hN : (512 : Int) ≤ ((512 : Nat) : Int) := by decide
    have g1 : M' 28 1 = 31 := by rw [hi 28 (by decide)]; exact hg
    rw [s_7_61]
    simp only [hN, g1, s_7_66 (a := 30) (n := 35) 0 (by decide) (aw_30 (by decide)) (by decide), s_7_0, s_7_1, s_7_4, s_7_5, s_7_8, s_7_10, s_7_13, s_7_14, s_7_17, s_7_19, s_7_22, s_7_23, s_7_25, s_7_27, s_7_30, s_7_31, s_7_33, s_7_35, s_7_38, s_7_39, s_7_42r, s_7_42, s_7_43, s_7_46, s_7_49, s_7_50, s_7_51, s_7_54, s_7_55, s_7_56, s_7_59, s_7_60, s_7_62, s_7_63, s_7_67, s_7_70, s_7_71, s_7_74, s_7_75, s_7_76, s_7_78, s_7_79, s_7_80, s_7_82, s_7_83, s_7_86, s_7_87, s_7_90, s_7_93, s_171_0, s_171_1, s_171_3, s_171_4, s_171_7, s_171_8, s_171_9, s_171_10, s_171_11, s_171_12, s_171_14, s_171_15, s_171_18, s_171_19, s_171_20, s_171_21, s_171_22, s_171_23, s_171_26, s_171_27, s_171_29, s_171_32, s_171_33, s_171_36, s_171_37, s_171_39, s_171_42, s_171_43, s_171_46, s_171_48, s_171_49, s_171_50, s_171_51, s_171_52, ob_28, kI_eq, kL_eq, kV_eq, stk_n, stk_i, stk_r, stk_l, stA, zrA, rowA, filA, Nat.reduceAdd, Nat.reduceSub, Nat.reduceEqDiff, Nat.reduceLeDiff, Nat.reduceLT, Int.reduceToNat, Int.reduceNeg, Int.reduceLT, Int.reduceLE, Int.reduceEq, Int.reduceAdd, Int.reduceSub, Int.reduceMul, true_and, and_true, false_and, and_false, if_true, if_false, not_true_eq_false, not_false_eq_true, true_implies, false_implies, forall_const, and_self, eq_self, reduceIte, Int.toNat_natCast, true_or, or_true, false_or, or_false, Nat.zero_add, Nat.add_zero, Nat.le_refl]
    have e : M' = row M0 30 (M' 30) := by
      funext a b
      by_cases h : a = 30
      · subst h; rw [row_at]
      · rw [row_ne h, hi a h]
    rw [e]
    exact K _
  · intro k M' hk hi ih
    have hk1 : ¬ ((512 : Int) ≤ (k : Int)) := by omega
    have hk2 : (k : Int) < 512 := by omega
    have hk3 : (0 : Int) ≤ (k : Int) := by omega
    have g1 : M' 28 1 = 31 := by rw [hi 28 (by decide)]; exact hg
    have e4 := w32_s (k := k) (by omega)
    have d2 : (k : Int).tmod 8 = ((k % 8 : Nat) : Int) := by rw [Int.tmod_eq_emod_of_nonneg (by omega)]; omega
    have d3 : (0 : Int) ≤ ((k % 8 : Nat) : Int) := by omega
    have d4 : ((k % 8 : Nat) : Int) < 8 := by omega
    have nx : ∀ v : Int, J (OJ (r + 1)) 7 n0 Q 61 [some (vr 29), some (vr 4), some (vr 27), some (vi ((k + 1 : Nat) : Int))] [] 35 (st M' 30 k v) := fun v => ih _ (fun c q => by rw [st_row q]; exact hi c q)
    rw [s_7_61]
    simp only [hk1, hk2, hk3, g1, d2, d3, d4, e4, s_7_66 (a := 30) (n := 35) 0 (by decide) (aw_30 (by decide)) (by decide), s_7_0, s_7_1, s_7_4, s_7_5, s_7_8, s_7_10, s_7_13, s_7_14, s_7_17, s_7_19, s_7_22, s_7_23, s_7_25, s_7_27, s_7_30, s_7_31, s_7_33, s_7_35, s_7_38, s_7_39, s_7_42r, s_7_42, s_7_43, s_7_46, s_7_49, s_7_50, s_7_51, s_7_54, s_7_55, s_7_56, s_7_59, s_7_60, s_7_62, s_7_63, s_7_67, s_7_70, s_7_71, s_7_74, s_7_75, s_7_76, s_7_78, s_7_79, s_7_80, s_7_82, s_7_83, s_7_86, s_7_87, s_7_90, s_7_93, s_171_0, s_171_1, s_171_3, s_171_4, s_171_7, s_171_8, s_171_9, s_171_10, s_171_11, s_171_12, s_171_14, s_171_15, s_171_18, s_171_19, s_171_20, s_171_21, s_171_22, s_171_23, s_171_26, s_171_27, s_171_29, s_171_32, s_171_33, s_171_36, s_171_37, s_171_39, s_171_42, s_171_43, s_171_46, s_171_48, s_171_49, s_171_50, s_171_51, s_171_52, o_171, ob_28, aw_30, al_1000, al_1001, kI_eq, kL_eq, kV_eq, stk_n, stk_i, stk_r, stk_l, stA, zrA, rowA, filA, Nat.reduceAdd, Nat.reduceSub, Nat.reduceEqDiff, Nat.reduceLeDiff, Nat.reduceLT, Int.reduceToNat, Int.reduceNeg, Int.reduceLT, Int.reduceLE, Int.reduceEq, Int.reduceAdd, Int.reduceSub, Int.reduceMul, true_and, and_true, false_and, and_false, if_true, if_false, not_true_eq_false, not_false_eq_true, true_implies, false_implies, forall_const, and_self, eq_self, reduceIte, Int.toNat_natCast, true_or, or_true, false_or, or_false, Nat.zero_add, Nat.add_zero, Nat.le_refl]
    repeat' (first | exact nx _ | (refine And.intro ?_ ?_) | intro _)
set_option maxHeartbeats 40000000 in
set_option maxRecDepth 100000 in
theorem initC {r : Nat} {Q : pQ} (M : pM) (K : ∀ M' : pM, FrC M' → (∀ a, 1000 ≤ a → M' a = M a) → Q none M') : J (OJ (r + 4)) 128 1 Q 0 [some (vr 1)] [] 1 (zr M 0) := by
  simp only [s_128_0, s_128_1, s_128_4, s_128_5, s_128_8, s_128_10, s_128_13, s_128_14, s_128_17r, s_128_17, s_128_18, s_128_19, s_128_22, s_128_25, s_128_28, s_128_29, s_128_32r, s_128_32, s_128_33, s_128_36, s_128_39, s_128_40, s_128_43r, s_128_43, s_128_44, s_128_47, s_128_50, s_128_51, s_128_54r, s_128_54, s_128_55, s_128_56, s_128_59, s_128_60, s_128_63, s_128_66, s_128_69, s_128_70, s_128_73r, s_128_73, s_128_74, s_128_75, s_128_78, s_128_81, s_128_84, s_128_85, s_128_86, s_128_89, s_128_90, s_128_93r, s_128_93, s_128_94, s_128_97, s_128_100, s_128_101, s_128_104r, s_128_104, s_128_105, s_128_106, s_128_109, s_128_110, s_128_113, s_128_116, s_128_119, s_128_120, s_128_123r, s_128_123, s_128_124, s_128_127, s_128_130, s_128_131, s_128_134r, s_128_134, s_128_135, s_128_138, s_128_141, s_128_142, s_128_145r, s_128_145, s_128_146, s_128_149, s_128_152, s_128_153, s_128_156r, s_128_156, s_128_157, s_128_160, s_128_163, s_128_164, s_128_167r, s_128_167, s_128_168, s_128_171, s_128_174, s_82_0, s_82_1, s_82_4, s_82_5, s_82_6, s_82_9, s_47_0, s_47_1, s_47_4, s_47_5, s_47_7, s_47_9, s_47_12, s_47_13, s_47_15, s_47_17, s_47_20, s_47_21, s_47_23, s_47_25, s_47_28, s_47_29, s_47_31, s_47_33, s_47_36, s_47_37, s_47_39, s_47_41, s_47_44, s_47_45, s_47_47, s_47_49, s_47_52, s_47_53, s_47_54, s_47_56, s_47_59, s_47_60, s_47_62, s_47_64, s_47_67, s_47_68, s_47_71, s_47_72, s_47_75, s_47_76, s_47_79, s_47_80, s_47_83, s_63_0, s_63_1, s_63_4, s_63_5, s_63_6, s_63_9, s_63_10, s_63_11, s_63_14, s_35_0, s_35_1, s_35_4, s_35_5, s_35_8, s_35_10, s_35_13, s_35_14, s_35_17, s_35_19, s_35_22, s_35_23, s_35_25, s_35_27, s_35_30, s_35_31, s_35_32, s_35_35, s_0_0, s_0_1, s_0_4, s_0_5, s_0_6, s_0_8, s_0_11, s_29_0, s_29_1, s_29_4, s_29_5, s_29_6, s_29_9, s_29_10, s_29_11, s_29_14, s_29_15, s_29_16, s_29_19, s_29_20, s_29_21, s_29_23, s_29_26, s_29_27, s_29_29, s_29_31, s_29_34, s_29_35, s_29_37, s_29_39, s_29_42, s_29_43, s_29_45, s_29_47, s_29_50, s_113_0, s_113_1, s_113_4, s_113_5, s_113_7, s_113_9, s_113_12, s_113_13, s_113_16, s_113_18, s_113_21, s_113_22, s_113_25, s_113_27, s_113_30, s_113_31, s_113_34, s_113_36, s_113_39, s_113_40, s_113_43, s_113_45, s_113_48, s_113_49, s_113_52, s_113_54, s_113_57, s_113_58, s_113_61, s_113_63, s_113_66, s_98_0, s_98_1, s_98_4, s_98_5, s_98_7, s_98_9, s_98_12, s_98_13, s_98_15, s_98_17, s_98_20, s_98_21, s_98_23, s_98_25, s_98_28, s_98_29, s_98_31, s_98_33, s_98_36, s_78_0, s_78_1, s_78_4, s_78_5, s_78_7, s_78_9, s_78_12, s_121_0, s_121_1, s_121_4, s_121_5, s_121_7, s_121_9, s_121_12, s_121_13, s_121_15, s_121_17, s_121_20, s_121_21, s_121_22, s_121_24, s_121_27, s_121_28, s_121_30, s_121_32, s_121_35, s_121_36, s_121_38, s_121_40, s_121_43, s_7_0, s_7_1, s_7_4, s_7_5, s_7_8, s_7_10, s_7_13, s_7_14, s_7_17, s_7_19, s_7_22, s_7_23, s_7_25, s_7_27, s_7_30, s_7_31, s_7_33, s_7_35, s_7_38, s_7_39, s_7_42r, s_7_42, s_7_43, s_7_46, s_7_49, s_7_50, s_7_51, s_7_54, s_7_55, s_7_56, s_7_59, s_7_60, s_7_62, s_7_63, s_7_67, s_7_70, s_7_71, s_7_74, s_7_75, s_7_76, s_7_78, s_7_79, s_7_80, s_7_82, s_7_83, s_7_86, s_7_87, s_7_90, s_7_93, o_82, o_47, o_63, o_35, o_0, o_7, o_29, o_113, o_98, o_78, o_121, o_322, fill_eq, sh_0, sh_1, sh_2, sh_3, sh_4, sh_5, sh_6, sh_7, sh_8, sh_9, sh_10, sh_11, sh_12, sh_13, sh_14, sh_15, sh_16, sh_17, sh_18, sh_19, sh_20, sh_21, sh_22, sh_23, sh_24, sh_25, sh_26, sh_27, sh_28, sh_29, sh_30, sh_31, sh_32, sh_33, sh_34, sh_35, sh_36, sh_37, sh_38, sh_39, sh_40, sh_41, sh_42, sh_43, sh_44, sh_45, sh_46, sh_47, sh_48, sh_49, sh_50, sh_51, sh_52, sh_53, sh_54, sh_55, sh_56, sh_57, sh_58, sh_59, sh_60, sh_61, sh_62, sh_63, sh_64, sh_65, sh_66, sh_67, sh_68, sh_69, sh_70, sh_71, sh_72, sh_73, sh_74, sh_75, sh_76, sh_77, sh_78, sh_79, sh_80, sh_81, sh_82, sh_83, sh_84, sh_85, sh_86, sh_87, sh_88, sh_89, sh_90, sh_91, sh_92, sh_93, sh_94, sh_95, sh_96, sh_97, sh_98, sh_99, sh_100, sh_101, sh_102, sh_103, sh_104, sh_105, sh_106, sh_107, sh_108, sh_109, sh_110, sh_111, sh_112, sh_113, sh_114, sh_115, sh_116, sh_117, sh_118, ob_0, ob_2, ob_3, ob_12, ob_21, ob_22, ob_26, ob_28, ob_33, ob_35, ob_40, ob_48, ob_53, ob_55, ob_61, aw_1, aw_4, aw_5, aw_6, aw_7, aw_8, aw_9, aw_10, aw_11, aw_13, aw_14, aw_15, aw_16, aw_17, aw_18, aw_19, aw_20, aw_23, aw_24, aw_25, aw_27, aw_29, aw_30, aw_31, aw_32, aw_34, aw_36, aw_37, aw_38, aw_39, aw_41, aw_42, aw_43, aw_44, aw_45, aw_46, aw_47, aw_49, aw_50, aw_51, aw_52, aw_54, aw_56, aw_57, aw_58, aw_59, aw_60, aw_62, aw_63, aw_64, aw_65, aw_66, aw_67, aw_68, aw_69, aw_70, aw_71, aw_72, aw_73, aw_74, aw_75, aw_76, aw_77, aw_78, aw_79, aw_80, aw_81, aw_82, aw_83, aw_84, aw_85, aw_86, aw_87, aw_88, aw_89, aw_90, aw_91, aw_92, aw_93, aw_94, aw_95, aw_96, aw_97, aw_98, aw_99, aw_100, aw_101, aw_102, aw_103, aw_104, aw_105, aw_106, aw_107, aw_108, aw_109, aw_110, aw_111, aw_112, aw_113, aw_114, aw_115, aw_116, aw_117, aw_118, kI_eq, kL_eq, kV_eq, stk_n, stk_i, stk_r, stk_l, stA, zrA, rowA, filA, Nat.reduceAdd, Nat.reduceSub, Nat.reduceEqDiff, Nat.reduceLeDiff, Nat.reduceLT, Int.reduceToNat, Int.reduceNeg, Int.reduceLT, Int.reduceLE, Int.reduceEq, Int.reduceAdd, Int.reduceSub, Int.reduceMul, true_and, and_true, false_and, and_false, if_true, if_false, not_true_eq_false, not_false_eq_true, true_implies, false_implies, forall_const, and_self, eq_self, reduceIte, Int.toNat_natCast, true_or, or_true, false_or, or_false, Nat.zero_add, Nat.add_zero, Nat.le_refl]
  refine fl_loop _ (by simp only [kI_eq, kL_eq, kV_eq, stk_n, stk_i, stk_r, stk_l, stA, zrA, rowA, filA, Nat.reduceAdd, Nat.reduceSub, Nat.reduceEqDiff, Nat.reduceLeDiff, Nat.reduceLT, Int.reduceToNat, Int.reduceNeg, Int.reduceLT, Int.reduceLE, Int.reduceEq, Int.reduceAdd, Int.reduceSub, Int.reduceMul, true_and, and_true, false_and, and_false, if_true, if_false, not_true_eq_false, not_false_eq_true, true_implies, false_implies, forall_const, and_self, eq_self, reduceIte, Int.toNat_natCast, true_or, or_true, false_or, or_false, Nat.zero_add, Nat.add_zero, Nat.le_refl]; rfl) (fun X => ?_)
  simp only [s_128_0, s_128_1, s_128_4, s_128_5, s_128_8, s_128_10, s_128_13, s_128_14, s_128_17r, s_128_17, s_128_18, s_128_19, s_128_22, s_128_25, s_128_28, s_128_29, s_128_32r, s_128_32, s_128_33, s_128_36, s_128_39, s_128_40, s_128_43r, s_128_43, s_128_44, s_128_47, s_128_50, s_128_51, s_128_54r, s_128_54, s_128_55, s_128_56, s_128_59, s_128_60, s_128_63, s_128_66, s_128_69, s_128_70, s_128_73r, s_128_73, s_128_74, s_128_75, s_128_78, s_128_81, s_128_84, s_128_85, s_128_86, s_128_89, s_128_90, s_128_93r, s_128_93, s_128_94, s_128_97, s_128_100, s_128_101, s_128_104r, s_128_104, s_128_105, s_128_106, s_128_109, s_128_110, s_128_113, s_128_116, s_128_119, s_128_120, s_128_123r, s_128_123, s_128_124, s_128_127, s_128_130, s_128_131, s_128_134r, s_128_134, s_128_135, s_128_138, s_128_141, s_128_142, s_128_145r, s_128_145, s_128_146, s_128_149, s_128_152, s_128_153, s_128_156r, s_128_156, s_128_157, s_128_160, s_128_163, s_128_164, s_128_167r, s_128_167, s_128_168, s_128_171, s_128_174, s_82_0, s_82_1, s_82_4, s_82_5, s_82_6, s_82_9, s_47_0, s_47_1, s_47_4, s_47_5, s_47_7, s_47_9, s_47_12, s_47_13, s_47_15, s_47_17, s_47_20, s_47_21, s_47_23, s_47_25, s_47_28, s_47_29, s_47_31, s_47_33, s_47_36, s_47_37, s_47_39, s_47_41, s_47_44, s_47_45, s_47_47, s_47_49, s_47_52, s_47_53, s_47_54, s_47_56, s_47_59, s_47_60, s_47_62, s_47_64, s_47_67, s_47_68, s_47_71, s_47_72, s_47_75, s_47_76, s_47_79, s_47_80, s_47_83, s_63_0, s_63_1, s_63_4, s_63_5, s_63_6, s_63_9, s_63_10, s_63_11, s_63_14, s_35_0, s_35_1, s_35_4, s_35_5, s_35_8, s_35_10, s_35_13, s_35_14, s_35_17, s_35_19, s_35_22, s_35_23, s_35_25, s_35_27, s_35_30, s_35_31, s_35_32, s_35_35, s_0_0, s_0_1, s_0_4, s_0_5, s_0_6, s_0_8, s_0_11, s_29_0, s_29_1, s_29_4, s_29_5, s_29_6, s_29_9, s_29_10, s_29_11, s_29_14, s_29_15, s_29_16, s_29_19, s_29_20, s_29_21, s_29_23, s_29_26, s_29_27, s_29_29, s_29_31, s_29_34, s_29_35, s_29_37, s_29_39, s_29_42, s_29_43, s_29_45, s_29_47, s_29_50, s_113_0, s_113_1, s_113_4, s_113_5, s_113_7, s_113_9, s_113_12, s_113_13, s_113_16, s_113_18, s_113_21, s_113_22, s_113_25, s_113_27, s_113_30, s_113_31, s_113_34, s_113_36, s_113_39, s_113_40, s_113_43, s_113_45, s_113_48, s_113_49, s_113_52, s_113_54, s_113_57, s_113_58, s_113_61, s_113_63, s_113_66, s_98_0, s_98_1, s_98_4, s_98_5, s_98_7, s_98_9, s_98_12, s_98_13, s_98_15, s_98_17, s_98_20, s_98_21, s_98_23, s_98_25, s_98_28, s_98_29, s_98_31, s_98_33, s_98_36, s_78_0, s_78_1, s_78_4, s_78_5, s_78_7, s_78_9, s_78_12, s_121_0, s_121_1, s_121_4, s_121_5, s_121_7, s_121_9, s_121_12, s_121_13, s_121_15, s_121_17, s_121_20, s_121_21, s_121_22, s_121_24, s_121_27, s_121_28, s_121_30, s_121_32, s_121_35, s_121_36, s_121_38, s_121_40, s_121_43, s_7_0, s_7_1, s_7_4, s_7_5, s_7_8, s_7_10, s_7_13, s_7_14, s_7_17, s_7_19, s_7_22, s_7_23, s_7_25, s_7_27, s_7_30, s_7_31, s_7_33, s_7_35, s_7_38, s_7_39, s_7_42r, s_7_42, s_7_43, s_7_46, s_7_49, s_7_50, s_7_51, s_7_54, s_7_55, s_7_56, s_7_59, s_7_60, s_7_62, s_7_63, s_7_67, s_7_70, s_7_71, s_7_74, s_7_75, s_7_76, s_7_78, s_7_79, s_7_80, s_7_82, s_7_83, s_7_86, s_7_87, s_7_90, s_7_93, o_82, o_47, o_63, o_35, o_0, o_7, o_29, o_113, o_98, o_78, o_121, o_322, fill_eq, sh_0, sh_1, sh_2, sh_3, sh_4, sh_5, sh_6, sh_7, sh_8, sh_9, sh_10, sh_11, sh_12, sh_13, sh_14, sh_15, sh_16, sh_17, sh_18, sh_19, sh_20, sh_21, sh_22, sh_23, sh_24, sh_25, sh_26, sh_27, sh_28, sh_29, sh_30, sh_31, sh_32, sh_33, sh_34, sh_35, sh_36, sh_37, sh_38, sh_39, sh_40, sh_41, sh_42, sh_43, sh_44, sh_45, sh_46, sh_47, sh_48, sh_49, sh_50, sh_51, sh_52, sh_53, sh_54, sh_55, sh_56, sh_57, sh_58, sh_59, sh_60, sh_61, sh_62, sh_63, sh_64, sh_65, sh_66, sh_67, sh_68, sh_69, sh_70, sh_71, sh_72, sh_73, sh_74, sh_75, sh_76, sh_77, sh_78, sh_79, sh_80, sh_81, sh_82, sh_83, sh_84, sh_85, sh_86, sh_87, sh_88, sh_89, sh_90, sh_91, sh_92, sh_93, sh_94, sh_95, sh_96, sh_97, sh_98, sh_99, sh_100, sh_101, sh_102, sh_103, sh_104, sh_105, sh_106, sh_107, sh_108, sh_109, sh_110, sh_111, sh_112, sh_113, sh_114, sh_115, sh_116, sh_117, sh_118, ob_0, ob_2, ob_3, ob_12, ob_21, ob_22, ob_26, ob_28, ob_33, ob_35, ob_40, ob_48, ob_53, ob_55, ob_61, aw_1, aw_4, aw_5, aw_6, aw_7, aw_8, aw_9, aw_10, aw_11, aw_13, aw_14, aw_15, aw_16, aw_17, aw_18, aw_19, aw_20, aw_23, aw_24, aw_25, aw_27, aw_29, aw_30, aw_31, aw_32, aw_34, aw_36, aw_37, aw_38, aw_39, aw_41, aw_42, aw_43, aw_44, aw_45, aw_46, aw_47, aw_49, aw_50, aw_51, aw_52, aw_54, aw_56, aw_57, aw_58, aw_59, aw_60, aw_62, aw_63, aw_64, aw_65, aw_66, aw_67, aw_68, aw_69, aw_70, aw_71, aw_72, aw_73, aw_74, aw_75, aw_76, aw_77, aw_78, aw_79, aw_80, aw_81, aw_82, aw_83, aw_84, aw_85, aw_86, aw_87, aw_88, aw_89, aw_90, aw_91, aw_92, aw_93, aw_94, aw_95, aw_96, aw_97, aw_98, aw_99, aw_100, aw_101, aw_102, aw_103, aw_104, aw_105, aw_106, aw_107, aw_108, aw_109, aw_110, aw_111, aw_112, aw_113, aw_114, aw_115, aw_116, aw_117, aw_118, kI_eq, kL_eq, kV_eq, stk_n, stk_i, stk_r, stk_l, stA, zrA, rowA, filA, Nat.reduceAdd, Nat.reduceSub, Nat.reduceEqDiff, Nat.reduceLeDiff, Nat.reduceLT, Int.reduceToNat, Int.reduceNeg, Int.reduceLT, Int.reduceLE, Int.reduceEq, Int.reduceAdd, Int.reduceSub, Int.reduceMul, true_and, and_true, false_and, and_false, if_true, if_false, not_true_eq_false, not_false_eq_true, true_implies, false_implies, forall_const, and_self, eq_self, reduceIte, Int.toNat_natCast, true_or, or_true, false_or, or_false, Nat.zero_add, Nat.add_zero, Nat.le_refl]
  refine K _ ⟨?_, ?_, ?_, ?_⟩ ?_
  · unfold frC
    repeat refine List.forall_mem_cons.mpr ⟨rfl, ?_⟩
    exact fun _ h => absurd h List.not_mem_nil
  · intro i hi
    simp only [hi, kI_eq, kL_eq, kV_eq, stk_n, stk_i, stk_r, stk_l, stA, zrA, rowA, filA, Nat.reduceAdd, Nat.reduceSub, Nat.reduceEqDiff, Nat.reduceLeDiff, Nat.reduceLT, Int.reduceToNat, Int.reduceNeg, Int.reduceLT, Int.reduceLE, Int.reduceEq, Int.reduceAdd, Int.reduceSub, Int.reduceMul, true_and, and_true, false_and, and_false, if_true, if_false, not_true_eq_false, not_false_eq_true, true_implies, false_implies, forall_const, and_self, eq_self, reduceIte, Int.toNat_natCast, true_or, or_true, false_or, or_false, Nat.zero_add, Nat.add_zero, Nat.le_refl]
  · intro i
    simp only [kI_eq, kL_eq, kV_eq, stk_n, stk_i, stk_r, stk_l, stA, zrA, rowA, filA, Nat.reduceAdd, Nat.reduceSub, Nat.reduceEqDiff, Nat.reduceLeDiff, Nat.reduceLT, Int.reduceToNat, Int.reduceNeg, Int.reduceLT, Int.reduceLE, Int.reduceEq, Int.reduceAdd, Int.reduceSub, Int.reduceMul, true_and, and_true, false_and, and_false, if_true, if_false, not_true_eq_false, not_false_eq_true, true_implies, false_implies, forall_const, and_self, eq_self, reduceIte, Int.toNat_natCast, true_or, or_true, false_or, or_false, Nat.zero_add, Nat.add_zero, Nat.le_refl]
  · intro i
    simp only [kI_eq, kL_eq, kV_eq, stk_n, stk_i, stk_r, stk_l, stA, zrA, rowA, filA, Nat.reduceAdd, Nat.reduceSub, Nat.reduceEqDiff, Nat.reduceLeDiff, Nat.reduceLT, Int.reduceToNat, Int.reduceNeg, Int.reduceLT, Int.reduceLE, Int.reduceEq, Int.reduceAdd, Int.reduceSub, Int.reduceMul, true_and, and_true, false_and, and_false, if_true, if_false, not_true_eq_false, not_false_eq_true, true_implies, false_implies, forall_const, and_self, eq_self, reduceIte, Int.toNat_natCast, true_or, or_true, false_or, or_false, Nat.zero_add, Nat.add_zero, Nat.le_refl]
  · intro a ha
    obtain ⟨c, rfl⟩ : ∃ c, a = c + 1000 := ⟨a - 1000, by omega⟩
    funext b
    simp only [kI_eq, kL_eq, kV_eq, stk_n, stk_i, stk_r, stk_l, stA, zrA, rowA, filA, Nat.reduceAdd, Nat.reduceSub, Nat.reduceEqDiff, Nat.reduceLeDiff, Nat.reduceLT, Int.reduceToNat, Int.reduceNeg, Int.reduceLT, Int.reduceLE, Int.reduceEq, Int.reduceAdd, Int.reduceSub, Int.reduceMul, true_and, and_true, false_and, and_false, if_true, if_false, not_true_eq_false, not_false_eq_true, true_implies, false_implies, forall_const, and_self, eq_self, reduceIte, Int.toNat_natCast, true_or, or_true, false_or, or_false, Nat.zero_add, Nat.add_zero, Nat.le_refl]
