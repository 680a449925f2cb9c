theorem hp_40 {x y : Int} {M : pM} : HP 40 x y M = ((∀ i : Nat, i < 126 → M 1005 i = wds.getD i 0) ∧ ∀ i : Nat, i < 10 → M 1007 i = sgs.getD i 0) := rfl
theorem hp_41 {x y : Int} {M : pM} : HP 41 x y M = (0 ≤ x ∧ x ≤ 1920 ∧ ∀ i : Nat, i < x.toNat → M 62 i = w8 (M 1 i)) := rfl
theorem hp_42 {x y : Int} {M : pM} : HP 42 x y M = (0 ≤ M 2 1 ∧ M 2 1 ≤ 1900 ∧ M 61 3 = M 2 1 ∧ ∀ i : Nat, i < tN M → M 63 i = w8 (M 1 i)) := rfl
theorem hp_43 {x y : Int} {M : pM} : HP 43 x y M = (∃ P p q : Nat, P ≤ 2 ∧ p ≤ 1900 ∧ x = 2048 * P + p ∧ y = q ∧ al M P p q) := rfl
theorem hp_44 {x y : Int} {M : pM} : HP 44 x y M = (∃ P p : Nat, P ≤ 2 ∧ p ≤ 1900 ∧ x = 2048 * P + p ∧ y = (ru M P p : Int)) := rfl
theorem hp_45 {x y : Int} {M : pM} : HP 45 x y M = (0 ≤ x ∧ y = (tS M x.toNat : Int)) := rfl
theorem hp_46 {x y : Int} {M : pM} : HP 46 x y M = (0 ≤ x ∧ y = (tE M x.toNat : Int)) := rfl
theorem hp_47 {x y : Int} {M : pM} : HP 47 x y M = (0 ≤ x ∧ y = tK M x.toNat) := rfl
theorem hp_48 {x y : Int} {M : pM} : HP 48 x y M = ((0 ≤ x ∧ -1 ≤ M 2 5 ∧ M 2 5 ≤ 9999) ∧ M 2 4 = (tS M x.toNat : Int) ∧ M 2 2 = (tE M x.toNat : Int) ∧ tK M x.toNat = 131072 * M 2 3 + M 2 5) := rfl
theorem hp_49 {x y : Int} {M : pM} : HP 49 x y M = (0 ≤ x ∧ M 61 6 = (tS M x.toNat : Int) ∧ M 61 7 = (tE M x.toNat : Int) ∧ (M 61 8 = 0 ∧ tK M x.toNat = 131071 ∨ M 61 8 = 1 ∧ -1 ≤ tK M x.toNat ∧ tK M x.toNat ≤ 255 ∨ M 61 8 = 2 ∧ tK M x.toNat = 262143 ∧ PKp 256 0 (tm M) (2048 * (tS M x.toNat : Int) + tE M x.toNat) (M 61 10) ∨ M 61 8 = 3 ∧ (∃ k : Nat, k < 24 ∧ tK M x.toNat = 262144 + k ∧ M 61 10 = qwn k) ∨ M 61 8 = 4 ∧ tK M x.toNat = 393216 + M 61 9 ∨ M 61 8 = 5 ∧ 524288 ≤ tK M x.toNat ∧ tK M x.toNat ≤ 524543)) := rfl
theorem hp_50 {x y : Int} {M : pM} : HP 50 x y M = (∃ s e : Nat, s ≤ 1900 ∧ e ≤ 1900 ∧ x = 2048 * s + e ∧ y = wid M s e) := rfl
theorem hp_51 {x y : Int} {M : pM} : HP 51 x y M = (∃ s e : Nat, s ≤ e ∧ e ≤ 1950 ∧ x = 2048 * s + e ∧ y = dv M s (e - s)) := rfl
theorem hp_53 {x y : Int} {M : pM} : HP 53 x y M = (EXp (tm M) x y) := rfl
theorem hp_54 {x y : Int} {M : pM} : HP 54 x y M = (CAp (tm M) (qRc 0 M) x y) := rfl
theorem hp_55 {x y : Int} {M : pM} : HP 55 x y M = (CAp (tm M) (qRc 1 M) x y) := rfl
theorem hp_56 {x y : Int} {M : pM} : HP 56 x y M = (CWp (tm M) (qRc 0 M) x y) := rfl
theorem hp_57 {x y : Int} {M : pM} : HP 57 x y M = (CWp (tm M) (qRc 1 M) x y) := rfl
theorem hp_58 {x y : Int} {M : pM} : HP 58 x y M = (CEp (tm M) (qRc 0 M) x y ∧ qFc 0 M y) := rfl
theorem hp_59 {x y : Int} {M : pM} : HP 59 x y M = (CEp (tm M) (qRc 1 M) x y ∧ qFc 1 M y) := rfl
theorem hp_60 {x y : Int} {M : pM} : HP 60 x y M = (RAp (tm M) (qRr 0 M) x y) := rfl
theorem hp_61 {x y : Int} {M : pM} : HP 61 x y M = (RAp (tm M) (qRr 1 M) x y) := rfl
theorem hp_62 {x y : Int} {M : pM} : HP 62 x y M = (RWp (tm M) (qRr 0 M) x y) := rfl
theorem hp_63 {x y : Int} {M : pM} : HP 63 x y M = (RWp (tm M) (qRr 1 M) x y) := rfl
theorem hp_64 {x y : Int} {M : pM} : HP 64 x y M = (REp (tm M) (qRr 0 M) x y ∧ qFr 0 M y) := rfl
theorem hp_65 {x y : Int} {M : pM} : HP 65 x y M = (REp (tm M) (qRr 1 M) x y ∧ qFr 1 M y) := rfl
theorem hp_66 {x y : Int} {M : pM} : HP 66 x y M = (FLp (tm M) x y) := rfl
theorem hp_69 {x y : Int} {M : pM} : HP 69 x y M = (∀ i : Nat, i < 10 → (i : Int) < x → M 1007 i ≠ y) := rfl
theorem hp_70 {x y : Int} {M : pM} : HP 70 x y M = (x ∈ sgs) := rfl
theorem hp_71 {x y : Int} {M : pM} : HP 71 x y M = (MKp qb4 15 8 (tm M) x y) := rfl
theorem hp_72 {x y : Int} {M : pM} : HP 72 x y M = (MKp qb4 16 8 (tm M) x y) := rfl
theorem hp_73 {x y : Int} {M : pM} : HP 73 x y M = (MWp qb4 15 8 (tm M) x y) := rfl
theorem hp_74 {x y : Int} {M : pM} : HP 74 x y M = (MWp qb4 16 8 (tm M) x y) := rfl
theorem hp_79 {x y : Int} {M : pM} : HP 79 x y M = (VAp (tm M) x y) := rfl
theorem hp_80 {x y : Int} {M : pM} : HP 80 x y M = (GRp (tm M) x) := rfl
theorem hp_81 {x y : Int} {M : pM} : HP 81 x y M = (CGp (tm M) (qRc 0 M) x y) := rfl
theorem hp_82 {x y : Int} {M : pM} : HP 82 x y M = (CGp (tm M) (qRc 1 M) x y) := rfl
theorem hp_83 {x y : Int} {M : pM} : HP 83 x y M = (CLp (tm M) (qRc 0 M) x y) := rfl
theorem hp_84 {x y : Int} {M : pM} : HP 84 x y M = (CLp (tm M) (qRc 1 M) x y) := rfl
theorem hp_85 {x y : Int} {M : pM} : HP 85 x y M = (CSp (tm M) (qRc 0 M) x y) := rfl
theorem hp_86 {x y : Int} {M : pM} : HP 86 x y M = (CSp (tm M) (qRc 1 M) x y) := rfl
theorem hp_87 {x y : Int} {M : pM} : HP 87 x y M = (0 ≤ x ∧ qlt (tm M) x.toNat 1 0 = 97 + y) := rfl
theorem hp_88 {x y : Int} {M : pM} : HP 88 x y M = (0 ≤ x ∧ y = qwl (tm M) x.toNat) := rfl
theorem hp_89 {x y : Int} {M : pM} : HP 89 x y M = (LNp (tm M) x y) := rfl
theorem hp_90 {x y : Int} {M : pM} : HP 90 x y M = (PKp 32 96 (tm M) x y) := rfl
theorem hp_91 {x y : Int} {M : pM} : HP 91 x y M = (0 ≤ x ∧ y = qpk 32 96 (tm M) (qps (tm M) x.toNat 1)) := rfl
theorem hp_92 {x y : Int} {M : pM} : HP 92 x y M = (∀ i : Nat, i < 4 → (i : Int) < x → M 10 i ≠ y) := rfl
theorem hp_93 {x y : Int} {M : pM} : HP 93 x y M = (∀ i : Nat, i < 4 → (i : Int) < x → M 19 i ≠ y) := rfl
theorem hp_94 {x y : Int} {M : pM} : HP 94 x y M = (MKp qb8 17 64 (tm M) x y) := rfl
theorem hp_95 {x y : Int} {M : pM} : HP 95 x y M = (MWp qb8 17 64 (tm M) x y) := rfl
theorem hp_96 {x y : Int} {M : pM} : HP 96 x y M = (∃ p g : Nat, p ≤ 1950 ∧ g ≤ 4 ∧ x = 8 * (p : Int) + g ∧ ∀ j, j < g → M 1 (p + j) = qby y j) := rfl
theorem hp_97 {x y : Int} {M : pM} : HP 97 x y M = (∃ p k : Nat, p ≤ 1950 ∧ k ≤ 5 ∧ x = 8 * (p : Int) + k ∧ qfd M p k y) := rfl
theorem hp_130 {x y : Int} {M : pM} : HP 130 x y M = (x ≤ 64 ∧ ∀ i : Nat, (i : Int) < x → M 4 i = y) := rfl
theorem hp_131 {x y : Int} {M : pM} : HP 131 x y M = (x ≤ 48 ∧ ∀ i : Nat, (i : Int) < x → M 5 i = y) := rfl
theorem hp_132 {x y : Int} {M : pM} : HP 132 x y M = (x ≤ 6 ∧ ∀ i : Nat, (i : Int) < x → M 6 i = y) := rfl
theorem hp_133 {x y : Int} {M : pM} : HP 133 x y M = (x ≤ 6 ∧ ∀ i : Nat, (i : Int) < x → M 7 i = y) := rfl
theorem hp_134 {x y : Int} {M : pM} : HP 134 x y M = (x ≤ 64 ∧ ∀ i : Nat, (i : Int) < x → M 13 i = y) := rfl
theorem hp_135 {x y : Int} {M : pM} : HP 135 x y M = (x ≤ 48 ∧ ∀ i : Nat, (i : Int) < x → M 14 i = y) := rfl
theorem hp_136 {x y : Int} {M : pM} : HP 136 x y M = (x ≤ 6 ∧ ∀ i : Nat, (i : Int) < x → M 15 i = y) := rfl
theorem hp_137 {x y : Int} {M : pM} : HP 137 x y M = (x ≤ 6 ∧ ∀ i : Nat, (i : Int) < x → M 16 i = y) := rfl
theorem hp_140 {x y : Int} {M : pM} : HP 140 x y M = (∃ k : Nat, k < 24 ∧ x = k ∧ y = qwn k) := rfl
theorem hp_142 {x y : Int} {M : pM} : HP 142 x y M = (∀ k : Nat, k < 24 → (k : Int) < x → y ≠ qwn k) := rfl
theorem hp_143 {x y : Int} {M : pM} : HP 143 x y M = (PKp 256 0 (tm M) x y) := rfl
theorem hp_144 {x y : Int} {M : pM} : HP 144 x y M = (∀ k : Nat, k < 10 → (k : Int) < x → y ≠ sgs.getD k 0) := rfl
theorem hp_145 {x y : Int} {M : pM} : HP 145 x y M = (RGp (tm M) (qRr 0 M) x y) := rfl
theorem hp_146 {x y : Int} {M : pM} : HP 146 x y M = (RGp (tm M) (qRr 1 M) x y) := rfl
theorem hp_147 {x y : Int} {M : pM} : HP 147 x y M = (RLp (tm M) (qRr 0 M) x y) := rfl
theorem hp_148 {x y : Int} {M : pM} : HP 148 x y M = (RLp (tm M) (qRr 1 M) x y) := rfl
theorem hp_149 {x y : Int} {M : pM} : HP 149 x y M = (RSp (tm M) (qRr 0 M) x y) := rfl
theorem hp_150 {x y : Int} {M : pM} : HP 150 x y M = (RSp (tm M) (qRr 1 M) x y) := rfl
theorem hp_151 {x y : Int} {M : pM} : HP 151 x y M = (RXp (tm M) (qRr 0 M) x y) := rfl
theorem hp_152 {x y : Int} {M : pM} : HP 152 x y M = (RXp (tm M) (qRr 1 M) x y) := rfl
theorem hp_153 {x y : Int} {M : pM} : HP 153 x y M = (∀ i : Nat, i < 4 → 0 + (i : Int) < x → M 83 (0 + i) ≠ y) := rfl
theorem hp_154 {x y : Int} {M : pM} : HP 154 x y M = (∀ i : Nat, i < 4 → 4 + (i : Int) < x → M 83 (4 + i) ≠ y) := rfl
theorem hp_155 {x y : Int} {M : pM} : HP 155 x y M = (0 ≤ x ∧ ∃ g : Nat, g < 4 ∧ y = g ∧ M 83 (0 + g) = qpk 256 0 (tm M) (qps (tm M) x.toNat 1)) := rfl
theorem hp_156 {x y : Int} {M : pM} : HP 156 x y M = (0 ≤ x ∧ ∃ g : Nat, g < 4 ∧ y = g ∧ M 83 (4 + g) = qpk 256 0 (tm M) (qps (tm M) x.toNat 1)) := rfl
theorem hp_157 {x y : Int} {M : pM} : HP 157 x y M = (TIp (tm M) x y) := rfl
theorem hp_158 {x y : Int} {M : pM} : HP 158 x y M = (0 ≤ x ∧ x ≤ 1901 ∧ ∀ i : Nat, i < x.toNat → M 63 i = M 62 i) := rfl
theorem hp_160 {x y : Int} {M : pM} : HP 160 x y M = (x ≤ 64 ∧ ∀ i : Nat, (i : Int) < x → M 69 (0 + i) = y) := rfl
theorem hp_161 {x y : Int} {M : pM} : HP 161 x y M = (x ≤ 48 ∧ ∀ i : Nat, (i : Int) < x → M 70 (0 + i) = y) := rfl
theorem hp_162 {x y : Int} {M : pM} : HP 162 x y M = (x ≤ 6 ∧ ∀ i : Nat, (i : Int) < x → M 71 (0 + i) = y) := rfl
theorem hp_163 {x y : Int} {M : pM} : HP 163 x y M = (x ≤ 6 ∧ ∀ i : Nat, (i : Int) < x → M 72 (0 + i) = y) := rfl
theorem hp_164 {x y : Int} {M : pM} : HP 164 x y M = (x ≤ 6 ∧ ∀ i : Nat, (i : Int) < x → M 73 (0 + i) = y) := rfl
theorem hp_165 {x y : Int} {M : pM} : HP 165 x y M = (x ≤ 64 ∧ ∀ i : Nat, (i : Int) < x → M 86 (0 + i) = y) := rfl
theorem hp_166 {x y : Int} {M : pM} : HP 166 x y M = (x ≤ 8 ∧ ∀ i : Nat, (i : Int) < x → M 84 (0 + i) = y) := rfl
theorem hp_167 {x y : Int} {M : pM} : HP 167 x y M = (x ≤ 8 ∧ ∀ i : Nat, (i : Int) < x → M 85 (0 + i) = y) := rfl
theorem hp_170 {x y : Int} {M : pM} : HP 170 x y M = (x ≤ 64 ∧ ∀ i : Nat, (i : Int) < x → M 69 (64 + i) = y) := rfl
theorem hp_171 {x y : Int} {M : pM} : HP 171 x y M = (x ≤ 48 ∧ ∀ i : Nat, (i : Int) < x → M 70 (48 + i) = y) := rfl
theorem hp_172 {x y : Int} {M : pM} : HP 172 x y M = (x ≤ 6 ∧ ∀ i : Nat, (i : Int) < x → M 71 (6 + i) = y) := rfl
theorem hp_173 {x y : Int} {M : pM} : HP 173 x y M = (x ≤ 6 ∧ ∀ i : Nat, (i : Int) < x → M 72 (6 + i) = y) := rfl
theorem hp_174 {x y : Int} {M : pM} : HP 174 x y M = (x ≤ 6 ∧ ∀ i : Nat, (i : Int) < x → M 73 (6 + i) = y) := rfl
theorem hp_175 {x y : Int} {M : pM} : HP 175 x y M = (x ≤ 64 ∧ ∀ i : Nat, (i : Int) < x → M 86 (64 + i) = y) := rfl
theorem hp_176 {x y : Int} {M : pM} : HP 176 x y M = (x ≤ 8 ∧ ∀ i : Nat, (i : Int) < x → M 84 (0 + i) = y) := rfl
theorem hp_177 {x y : Int} {M : pM} : HP 177 x y M = (x ≤ 8 ∧ ∀ i : Nat, (i : Int) < x → M 85 (0 + i) = y) := rfl
theorem hp_178 {x y : Int} {M : pM} : HP 178 x y M = (∃ i : Nat, i ≤ 126 ∧ x = i ∧ y = 32 * ((qws i).1 : Int) + ((qws i).2 : Int)) := rfl
theorem hp_179 {x y : Int} {M : pM} : HP 179 x y M = (∃ s e i : Nat, (s ≤ e ∧ e ≤ 1900 ∧ i ≤ 126) ∧ x = 2048 * (s : Int) + e ∧ y = i ∧ ∀ k, k < (qws i).1 → bts (tm M) s (e - s) ≠ kws.getD k []) := rfl
theorem hp_180 {x y : Int} {M : pM} : HP 180 x y M = (∃ s e i : Nat, (s ≤ e ∧ e ≤ 1900 ∧ i ≤ 126) ∧ x = 2048 * (s : Int) + e ∧ y = i ∧ (qws i).2 ≤ e - s ∧ ∀ j, j < (qws i).2 → tm M 1 (s + j) = (kws.getD (qws i).1 []).getD j 0) := rfl
theorem hp_181 {x y : Int} {M : pM} : HP 181 x y M = (∃ s e i : Nat, (s ≤ 1900 ∧ e ≤ 1900 ∧ i ≤ 126) ∧ x = 2048 * (s : Int) + e ∧ y = i ∧ bts (tm M) s (e - s) ≠ kws.getD (qws i).1 []) := rfl
theorem hp_182 {x y : Int} {M : pM} : HP 182 x y M = (M 61 34 = 0 ∧ qEQ 0 M ∨ M 61 34 = 1 ∧ qEQ 1 M) := rfl
theorem hp_183 {x y : Int} {M : pM} : HP 183 x y M = (qEQ 0 M) := rfl
theorem hp_184 {x y : Int} {M : pM} : HP 184 x y M = (qEQ 1 M) := rfl
theorem hp_185 {x y : Int} {M : pM} : HP 185 x y M = (∃ a i : Nat, a ≤ 5 ∧ i ≤ a + 1 ∧ x = 8 * (a : Int) + i ∧ y = i ∧ ∀ k : Nat, i ≤ k → k ≤ a → M 7 (0 + k) < 0) := rfl
theorem hp_186 {x y : Int} {M : pM} : HP 186 x y M = (∃ a i : Nat, a ≤ 5 ∧ i ≤ a + 1 ∧ x = 8 * (a : Int) + i ∧ y = i ∧ ∀ k : Nat, i ≤ k → k ≤ a → M 16 (0 + k) < 0) := rfl
theorem hp_187 {x y : Int} {M : pM} : HP 187 x y M = (∃ a i : Nat, a ≤ 5 ∧ i ≤ a + 1 ∧ x = 8 * (a : Int) + i ∧ y = i ∧ ∀ k : Nat, i ≤ k → k ≤ a → M 73 (0 + k) < 0) := rfl
theorem hp_188 {x y : Int} {M : pM} : HP 188 x y M = (∃ a i : Nat, a ≤ 5 ∧ i ≤ a + 1 ∧ x = 8 * (a : Int) + i ∧ y = i ∧ ∀ k : Nat, i ≤ k → k ≤ a → M 73 (6 + k) < 0) := rfl
theorem hp_189 {x y : Int} {M : pM} : HP 189 x y M = (∃ a i : Nat, a ≤ 5 ∧ i ≤ a + 1 ∧ x = 8 * (a : Int) + i ∧ y = i ∧ ∀ k : Nat, i ≤ k → k ≤ a → M 6 (0 + k) < 0) := rfl
theorem hp_190 {x y : Int} {M : pM} : HP 190 x y M = (∃ a i : Nat, a ≤ 5 ∧ i ≤ a + 1 ∧ x = 8 * (a : Int) + i ∧ y = i ∧ ∀ k : Nat, i ≤ k → k ≤ a → M 15 (0 + k) < 0) := rfl
theorem hp_191 {x y : Int} {M : pM} : HP 191 x y M = (∃ a i : Nat, a ≤ 5 ∧ i ≤ a + 1 ∧ x = 8 * (a : Int) + i ∧ y = i ∧ ∀ k : Nat, i ≤ k → k ≤ a → M 71 (0 + k) < 0) := rfl
theorem hp_192 {x y : Int} {M : pM} : HP 192 x y M = (∃ a i : Nat, a ≤ 5 ∧ i ≤ a + 1 ∧ x = 8 * (a : Int) + i ∧ y = i ∧ ∀ k : Nat, i ≤ k → k ≤ a → M 71 (6 + k) < 0) := rfl
theorem hp_193 {x y : Int} {M : pM} : HP 193 x y M = (CLq (M 8) x y) := rfl
theorem hp_194 {x y : Int} {M : pM} : HP 194 x y M = (CLq (M 17) x y) := rfl
theorem hp_195 {x y : Int} {M : pM} : HP 195 x y M = (NSq (fun i => M 74 (0 + i)) (fun i => M 75 (0 + i)) (fun i => M 76 (0 + i)) (fun i => M 77 (0 + i)) x y) := rfl
theorem hp_196 {x y : Int} {M : pM} : HP 196 x y M = (NSq (fun i => M 74 (12 + i)) (fun i => M 75 (12 + i)) (fun i => M 76 (12 + i)) (fun i => M 77 (12 + i)) x y) := rfl
theorem hp_197 {x y : Int} {M : pM} : HP 197 x y M = (∃ P F : Nat, P ≤ 8 ∧ F ≤ 200 ∧ x = 256 * (P : Int) + F ∧ qtr M P F) := rfl
theorem hp_198 {x y : Int} {M : pM} : HP 198 x y M = (∃ P F i : Nat, P ≤ 8 ∧ F ≤ 200 ∧ i < F ∧ x = 256 * (P : Int) + F ∧ y = i ∧ qtx M P F i) := rfl
theorem hp_285 {x y : Int} {M : pM} : HP 285 x y M = (DIp M x) := rfl
theorem hp_286 {x y : Int} {M : pM} : HP 286 x y M = (DRp 0 M x) := rfl
theorem hp_287 {x y : Int} {M : pM} : HP 287 x y M = (DRp 1 M x) := rfl
theorem hp_288 {x y : Int} {M : pM} : HP 288 x y M = (DSp 0 M x) := rfl
theorem hp_289 {x y : Int} {M : pM} : HP 289 x y M = (DSp 1 M x) := rfl
theorem hp_290 {x y : Int} {M : pM} : HP 290 x y M = (DWp 0 M x) := rfl
theorem hp_291 {x y : Int} {M : pM} : HP 291 x y M = (DWp 1 M x) := rfl
theorem hp_292 {x y : Int} {M : pM} : HP 292 x y M = (DFp 0 M) := rfl
theorem hp_293 {x y : Int} {M : pM} : HP 293 x y M = (DFp 1 M) := rfl
theorem hp_294 {x y : Int} {M : pM} : HP 294 x y M = (M 61 34 = 0 ∧ DFp 0 M ∨ M 61 34 = 1 ∧ DFp 1 M) := rfl
theorem hp_295 {x y : Int} {M : pM} : HP 295 x y M = (DLp M x y) := rfl
theorem hp_296 {x y : Int} {M : pM} : HP 296 x y M = (BSp 0 M x) := rfl
theorem hp_297 {x y : Int} {M : pM} : HP 297 x y M = (BSp 1 M x) := rfl
theorem hp_298 {x y : Int} {M : pM} : HP 298 x y M = (BIp 0 M x y) := rfl
theorem hp_299 {x y : Int} {M : pM} : HP 299 x y M = (BIp 1 M x y) := rfl
theorem hp_300 {x y : Int} {M : pM} : HP 300 x y M = (BJp 0 M x y) := rfl
theorem hp_301 {x y : Int} {M : pM} : HP 301 x y M = (BJp 1 M x y) := rfl
theorem hp_302 {x y : Int} {M : pM} : HP 302 x y M = (BDp M x) := rfl
theorem hp_310 {x y : Int} {M : pM} : HP 310 x y M = (HJp 0 M x y) := rfl
theorem hp_311 {x y : Int} {M : pM} : HP 311 x y M = (HJp 1 M x y) := rfl
theorem hp_312 {x y : Int} {M : pM} : HP 312 x y M = (HJp 2 M x y) := rfl
theorem hp_313 {x y : Int} {M : pM} : HP 313 x y M = (HJp 3 M x y) := rfl
theorem hp_314 {x y : Int} {M : pM} : HP 314 x y M = (HJp 4 M x y) := rfl
theorem hp_315 {x y : Int} {M : pM} : HP 315 x y M = (HJp 5 M x y) := rfl
theorem hp_316 {x y : Int} {M : pM} : HP 316 x y M = (HJp 6 M x y) := rfl
theorem hp_317 {x y : Int} {M : pM} : HP 317 x y M = (HJp 7 M x y) := rfl
theorem hp_318 {x y : Int} {M : pM} : HP 318 x y M = (HJp 8 M x y) := rfl
theorem hp_319 {x y : Int} {M : pM} : HP 319 x y M = (HJp 9 M x y) := rfl
theorem hp_320 {x y : Int} {M : pM} : HP 320 x y M = (MXp 0 M x y) := rfl
theorem hp_321 {x y : Int} {M : pM} : HP 321 x y M = (MXp 1 M x y) := rfl
theorem hp_322 {x y : Int} {M : pM} : HP 322 x y M = (MXp 2 M x y) := rfl
theorem hp_323 {x y : Int} {M : pM} : HP 323 x y M = (MXp 3 M x y) := rfl
theorem hp_324 {x y : Int} {M : pM} : HP 324 x y M = (MXp 4 M x y) := rfl
theorem hp_325 {x y : Int} {M : pM} : HP 325 x y M = (MXp 5 M x y) := rfl
theorem hp_326 {x y : Int} {M : pM} : HP 326 x y M = (MXp 6 M x y) := rfl
theorem hp_327 {x y : Int} {M : pM} : HP 327 x y M = (MXp 7 M x y) := rfl
theorem hp_328 {x y : Int} {M : pM} : HP 328 x y M = (MXp 8 M x y) := rfl
theorem hp_329 {x y : Int} {M : pM} : HP 329 x y M = (MXp 9 M x y) := rfl
theorem hp_330 {x y : Int} {M : pM} : HP 330 x y M = (LDp 0 M) := rfl
theorem hp_331 {x y : Int} {M : pM} : HP 331 x y M = (LDp 1 M) := rfl
theorem hp_332 {x y : Int} {M : pM} : HP 332 x y M = (LDp 2 M) := rfl
theorem hp_333 {x y : Int} {M : pM} : HP 333 x y M = (LDp 3 M) := rfl
theorem hp_334 {x y : Int} {M : pM} : HP 334 x y M = (LDp 4 M) := rfl
theorem hp_335 {x y : Int} {M : pM} : HP 335 x y M = (LDp 5 M) := rfl
theorem hp_336 {x y : Int} {M : pM} : HP 336 x y M = (LDp 6 M) := rfl
theorem hp_337 {x y : Int} {M : pM} : HP 337 x y M = (LDp 7 M) := rfl
theorem hp_338 {x y : Int} {M : pM} : HP 338 x y M = (LDp 8 M) := rfl
theorem hp_339 {x y : Int} {M : pM} : HP 339 x y M = (LDp 9 M) := rfl
theorem hp_340 {x y : Int} {M : pM} : HP 340 x y M = (HLp M x y) := rfl
theorem hp_341 {x y : Int} {M : pM} : HP 341 x y M = (ACp M x) := rfl
theorem hp_342 {x y : Int} {M : pM} : HP 342 x y M = (RBp M x) := rfl
theorem hp_343 {x y : Int} {M : pM} : HP 343 x y M = (OUp M x) := rfl
theorem hp_344 {x y : Int} {M : pM} : HP 344 x y M = (LLp M x) := rfl
theorem hp_345 {x y : Int} {M : pM} : HP 345 x y M = (LHp 1 M x y) := rfl
theorem hp_346 {x y : Int} {M : pM} : HP 346 x y M = (LHp 2 M x y) := rfl
theorem hp_347 {x y : Int} {M : pM} : HP 347 x y M = (LHp 3 M x y) := rfl
theorem hp_348 {x y : Int} {M : pM} : HP 348 x y M = (LAp 1 M x y) := rfl
theorem hp_349 {x y : Int} {M : pM} : HP 349 x y M = (LAp 2 M x y) := rfl
theorem hp_350 {x y : Int} {M : pM} : HP 350 x y M = (LAp 3 M x y) := rfl
theorem hp_351 {x y : Int} {M : pM} : HP 351 x y M = (LCp 1 M x y) := rfl
theorem hp_352 {x y : Int} {M : pM} : HP 352 x y M = (LCp 2 M x y) := rfl
theorem hp_353 {x y : Int} {M : pM} : HP 353 x y M = (LCp 3 M x y) := rfl
theorem hp_354 {x y : Int} {M : pM} : HP 354 x y M = (MRp M x y) := rfl
theorem hp_355 {x y : Int} {M : pM} : HP 355 x y M = (PWp 1 x y) := rfl
theorem hp_356 {x y : Int} {M : pM} : HP 356 x y M = (PWp 2 x y) := rfl
theorem hp_357 {x y : Int} {M : pM} : HP 357 x y M = (PWp 3 x y) := rfl
theorem hp_358 {x y : Int} {M : pM} : HP 358 x y M = (RQp M x) := rfl
theorem hp_359 {x y : Int} {M : pM} : HP 359 x y M = (SWp 1 M x y) := rfl
theorem hp_360 {x y : Int} {M : pM} : HP 360 x y M = (SWp 2 M x y) := rfl
theorem hp_361 {x y : Int} {M : pM} : HP 361 x y M = (SWp 3 M x y) := rfl
theorem hp_365 {x y : Int} {M : pM} : HP 365 x y M = (NRp M x) := rfl
theorem hp_366 {x y : Int} {M : pM} : HP 366 x y M = (NQp M x) := rfl
theorem hp_367 {x y : Int} {M : pM} : HP 367 x y M = (LZp M x) := rfl
theorem hp_368 {x y : Int} {M : pM} : HP 368 x y M = (SXp 1 M x y) := rfl
theorem hp_369 {x y : Int} {M : pM} : HP 369 x y M = (SXp 2 M x y) := rfl
theorem hp_370 {x y : Int} {M : pM} : HP 370 x y M = (SXp 3 M x y) := rfl
theorem hp_371 {x y : Int} {M : pM} : HP 371 x y M = (CPp M x) := rfl
theorem hp_372 {x y : Int} {M : pM} : HP 372 x y M = (SFp M x y) := rfl
