theorem nz_i {a : Nat} (h : ¬ a = 0) : ((a : Nat) : Int) ≠ 0 := fun q => h (Int.ofNat.inj q)
def RHX (G : Gg) (ρ : Rg) (rc : Nat → Nat → Int → Sg → Option (Int × Sg)) (d : Nat) : Prop := ∀ (z a : Nat) (o : Int) (m : Sg) (r : Int × Sg), rc z a o m = some r → Ex (d - 1) z 0 (ent (mtL MM z) [(2, (a : Int)), (0, o)]) [] (G, ρ, m) (some (0, r.1), (G, ρ, r.2))
def RHM (G : Gg) (ρ : Rg) (rc : Nat → Nat → Sg → Option (Int × Sg)) (d : Nat) : Prop := ∀ (z a : Nat) (m : Sg) (r : Int × Sg), rc z a m = some r → Ex (d - 1) z 0 (ent (mtL MM z) [(2, (a : Int))]) [] (G, ρ, m) (some (0, r.1), (G, ρ, r.2))
theorem Ex_callm {d y i : Nat} {L st : List MV} {h : Mh} {r : Option MV × Mh} {cs : List MI} {z na ck ml : Nat} {as rest E0 : List MV} {v : Option MV} {h1 : Mh} (hc : mtI MM y = cs) (hi : cs[i]? = some (.inr (.inr (.inl (z, na, ck))))) (hd : 1 ≤ d) (hn : na ≤ st.length ∧ st.length ≤ na + 4) (hrc : rc ck na st h) (ha : (st.take na).reverse = as) (hre : st.drop na = rest) (hm : mtL MM z = ml) (hE : ent ml as = E0) (hel : (entL as).length ≤ ml) (hz : Ex (d - 1) z 0 E0 [] h (v, h1)) (k : Ex d y (i + 1) L (v.toList ++ rest) h1 r) : Ex d y i L st h r := by subst hm; exact Ex_call hc hi hd hn hrc ha hre hE hel hz k
theorem mi_0 : mtI MM 0 = c0 := rfl
theorem mi_1 : mtI MM 1 = c1 := rfl
theorem mi_2 : mtI MM 2 = c2 := rfl
theorem mi_3 : mtI MM 3 = c3 := rfl
theorem mi_4 : mtI MM 4 = c4 := rfl
theorem mi_5 : mtI MM 5 = c5 := rfl
theorem mi_6 : mtI MM 6 = c6 := rfl
theorem mi_7 : mtI MM 7 = c7 := rfl
theorem mi_8 : mtI MM 8 = c8 := rfl
theorem mi_9 : mtI MM 9 = c9 := rfl
theorem mi_10 : mtI MM 10 = c10 := rfl
theorem mi_11 : mtI MM 11 = c11 := rfl
theorem mi_12 : mtI MM 12 = c12 := rfl
theorem mi_13 : mtI MM 13 = c13 := rfl
theorem mi_14 : mtI MM 14 = c14 := rfl
theorem mi_15 : mtI MM 15 = c15 := rfl
theorem mi_16 : mtI MM 16 = c16 := rfl
theorem mi_17 : mtI MM 17 = c17 := rfl
theorem mi_18 : mtI MM 18 = c18 := rfl
theorem mi_19 : mtI MM 19 = c19 := rfl
theorem mi_20 : mtI MM 20 = c20 := rfl
theorem mi_21 : mtI MM 21 = c21 := rfl
theorem mi_22 : mtI MM 22 = c22 := rfl
theorem mi_23 : mtI MM 23 = c23 := rfl
theorem mi_24 : mtI MM 24 = c24 := rfl
theorem mi_25 : mtI MM 25 = c25 := rfl
theorem mi_26 : mtI MM 26 = c26 := rfl
theorem mi_27 : mtI MM 27 = c27 := rfl
theorem mi_28 : mtI MM 28 = c28 := rfl
theorem mi_29 : mtI MM 29 = c29 := rfl
theorem mi_30 : mtI MM 30 = c30 := rfl
theorem mi_31 : mtI MM 31 = c31 := rfl
theorem mi_32 : mtI MM 32 = c32 := rfl
theorem mi_33 : mtI MM 33 = c33 := rfl
theorem mi_34 : mtI MM 34 = c34 := rfl
theorem mi_35 : mtI MM 35 = c35 := rfl
theorem mi_36 : mtI MM 36 = c36 := rfl
theorem mi_37 : mtI MM 37 = c37 := rfl
theorem mi_38 : mtI MM 38 = c38 := rfl
theorem mi_39 : mtI MM 39 = c39 := rfl
theorem mi_40 : mtI MM 40 = c40 := rfl
theorem mi_41 : mtI MM 41 = c41 := rfl
theorem mi_42 : mtI MM 42 = c42 := rfl
theorem mi_43 : mtI MM 43 = c43 := rfl
theorem mi_44 : mtI MM 44 = c44 := rfl
theorem mi_45 : mtI MM 45 = c45 := rfl
theorem mi_46 : mtI MM 46 = c46 := rfl
theorem mi_47 : mtI MM 47 = c47 := rfl
theorem mi_48 : mtI MM 48 = c48 := rfl
theorem mi_49 : mtI MM 49 = c49 := rfl
theorem mi_50 : mtI MM 50 = c50 := rfl
theorem mi_51 : mtI MM 51 = c51 := rfl
theorem mi_52 : mtI MM 52 = c52 := rfl
theorem mi_53 : mtI MM 53 = c53 := rfl
theorem mi_54 : mtI MM 54 = c54 := rfl
theorem mi_55 : mtI MM 55 = c55 := rfl
theorem mi_56 : mtI MM 56 = c56 := rfl
theorem mi_57 : mtI MM 57 = c57 := rfl
theorem mi_58 : mtI MM 58 = c58 := rfl
theorem mi_59 : mtI MM 59 = c59 := rfl
theorem mi_60 : mtI MM 60 = c60 := rfl
theorem mi_61 : mtI MM 61 = c61 := rfl
theorem mi_62 : mtI MM 62 = c62 := rfl
theorem mi_63 : mtI MM 63 = c63 := rfl
theorem mi_64 : mtI MM 64 = c64 := rfl
theorem mi_65 : mtI MM 65 = c65 := rfl
theorem mi_66 : mtI MM 66 = c66 := rfl
theorem mi_67 : mtI MM 67 = c67 := rfl
theorem mi_68 : mtI MM 68 = c68 := rfl
theorem mi_69 : mtI MM 69 = c69 := rfl
theorem mi_70 : mtI MM 70 = c70 := rfl
theorem mi_71 : mtI MM 71 = c71 := rfl
theorem mi_72 : mtI MM 72 = c72 := rfl
theorem mi_73 : mtI MM 73 = c73 := rfl
theorem mi_74 : mtI MM 74 = c74 := rfl
theorem mi_75 : mtI MM 75 = c75 := rfl
theorem mi_76 : mtI MM 76 = c76 := rfl
theorem mi_77 : mtI MM 77 = c77 := rfl
theorem mi_78 : mtI MM 78 = c78 := rfl
theorem mi_79 : mtI MM 79 = c79 := rfl
theorem mi_80 : mtI MM 80 = c80 := rfl
theorem mi_81 : mtI MM 81 = c81 := rfl
theorem mi_82 : mtI MM 82 = c82 := rfl
theorem mi_83 : mtI MM 83 = c83 := rfl
theorem mi_84 : mtI MM 84 = c84 := rfl
theorem mi_85 : mtI MM 85 = c85 := rfl
theorem mi_86 : mtI MM 86 = c86 := rfl
theorem mi_87 : mtI MM 87 = c87 := rfl
theorem mi_88 : mtI MM 88 = c88 := rfl
theorem mi_89 : mtI MM 89 = c89 := rfl
theorem mi_90 : mtI MM 90 = c90 := rfl
theorem mi_91 : mtI MM 91 = c91 := rfl
theorem mi_92 : mtI MM 92 = c92 := rfl
theorem mi_93 : mtI MM 93 = c93 := rfl
theorem mi_94 : mtI MM 94 = c94 := rfl
theorem mi_95 : mtI MM 95 = c95 := rfl
theorem mi_96 : mtI MM 96 = c96 := rfl
theorem mi_97 : mtI MM 97 = c97 := rfl
theorem mi_98 : mtI MM 98 = c98 := rfl
theorem mi_99 : mtI MM 99 = c99 := rfl
theorem mi_100 : mtI MM 100 = c100 := rfl
theorem mi_101 : mtI MM 101 = c101 := rfl
theorem mi_102 : mtI MM 102 = c102 := rfl
theorem mi_103 : mtI MM 103 = c103 := rfl
theorem mi_104 : mtI MM 104 = c104 := rfl
theorem mi_105 : mtI MM 105 = c105 := rfl
theorem mi_106 : mtI MM 106 = c106 := rfl
theorem mi_107 : mtI MM 107 = c107 := rfl
theorem mi_108 : mtI MM 108 = c108 := rfl
theorem mi_109 : mtI MM 109 = c109 := rfl
theorem mi_110 : mtI MM 110 = c110 := rfl
theorem mi_111 : mtI MM 111 = c111 := rfl
theorem mi_112 : mtI MM 112 = c112 := rfl
theorem mi_113 : mtI MM 113 = c113 := rfl
theorem mi_114 : mtI MM 114 = c114 := rfl
theorem mi_115 : mtI MM 115 = c115 := rfl
theorem mi_116 : mtI MM 116 = c116 := rfl
theorem mi_117 : mtI MM 117 = c117 := rfl
theorem mi_118 : mtI MM 118 = c118 := rfl
theorem mi_119 : mtI MM 119 = c119 := rfl
theorem mi_120 : mtI MM 120 = c120 := rfl
theorem mi_121 : mtI MM 121 = c121 := rfl
theorem mi_122 : mtI MM 122 = c122 := rfl
theorem mi_123 : mtI MM 123 = c123 := rfl
theorem mi_124 : mtI MM 124 = c124 := rfl
theorem mi_125 : mtI MM 125 = c125 := rfl
theorem mi_126 : mtI MM 126 = c126 := rfl
theorem mi_127 : mtI MM 127 = c127 := rfl
theorem mi_128 : mtI MM 128 = c128 := rfl
theorem mi_129 : mtI MM 129 = c129 := rfl
theorem mi_130 : mtI MM 130 = c130 := rfl
theorem mi_131 : mtI MM 131 = c131 := rfl
theorem mi_132 : mtI MM 132 = c132 := rfl
theorem mi_133 : mtI MM 133 = c133 := rfl
theorem mi_134 : mtI MM 134 = c134 := rfl
theorem mi_135 : mtI MM 135 = c135 := rfl
theorem mi_136 : mtI MM 136 = c136 := rfl
theorem mi_137 : mtI MM 137 = c137 := rfl
theorem mi_138 : mtI MM 138 = c138 := rfl
theorem mi_139 : mtI MM 139 = c139 := rfl
theorem mi_140 : mtI MM 140 = c140 := rfl
theorem mi_141 : mtI MM 141 = c141 := rfl
theorem mi_142 : mtI MM 142 = c142 := rfl
theorem mi_143 : mtI MM 143 = c143 := rfl
theorem mi_144 : mtI MM 144 = c144 := rfl
theorem mi_145 : mtI MM 145 = c145 := rfl
theorem mi_146 : mtI MM 146 = c146 := rfl
theorem mi_147 : mtI MM 147 = c147 := rfl
theorem mi_148 : mtI MM 148 = c148 := rfl
theorem mi_149 : mtI MM 149 = c149 := rfl
theorem mi_150 : mtI MM 150 = c150 := rfl
theorem mi_151 : mtI MM 151 = c151 := rfl
theorem mi_152 : mtI MM 152 = c152 := rfl
theorem mi_153 : mtI MM 153 = c153 := rfl
theorem mi_154 : mtI MM 154 = c154 := rfl
theorem mi_155 : mtI MM 155 = c155 := rfl
theorem mi_156 : mtI MM 156 = c156 := rfl
theorem mi_157 : mtI MM 157 = c157 := rfl
theorem mi_158 : mtI MM 158 = c158 := rfl
theorem mi_159 : mtI MM 159 = c159 := rfl
theorem mi_160 : mtI MM 160 = c160 := rfl
theorem mi_161 : mtI MM 161 = c161 := rfl
theorem mi_162 : mtI MM 162 = c162 := rfl
theorem mi_163 : mtI MM 163 = c163 := rfl
theorem mi_164 : mtI MM 164 = c164 := rfl
theorem mi_165 : mtI MM 165 = c165 := rfl
theorem mi_166 : mtI MM 166 = c166 := rfl
theorem mi_167 : mtI MM 167 = c167 := rfl
theorem mi_168 : mtI MM 168 = c168 := rfl
theorem mi_169 : mtI MM 169 = c169 := rfl
theorem mi_170 : mtI MM 170 = c170 := rfl
theorem mi_171 : mtI MM 171 = c171 := rfl
theorem mi_172 : mtI MM 172 = c172 := rfl
theorem mi_173 : mtI MM 173 = c173 := rfl
theorem mi_174 : mtI MM 174 = c174 := rfl
theorem mi_175 : mtI MM 175 = c175 := rfl
theorem mi_176 : mtI MM 176 = c176 := rfl
theorem mi_177 : mtI MM 177 = c177 := rfl
theorem mi_178 : mtI MM 178 = c178 := rfl
theorem mi_179 : mtI MM 179 = c179 := rfl
theorem mi_180 : mtI MM 180 = c180 := rfl
theorem mi_181 : mtI MM 181 = c181 := rfl
theorem mi_182 : mtI MM 182 = c182 := rfl
theorem mi_183 : mtI MM 183 = c183 := rfl
theorem mi_184 : mtI MM 184 = c184 := rfl
theorem mi_185 : mtI MM 185 = c185 := rfl
theorem mi_186 : mtI MM 186 = c186 := rfl
theorem mi_187 : mtI MM 187 = c187 := rfl
theorem mi_188 : mtI MM 188 = c188 := rfl
theorem mi_189 : mtI MM 189 = c189 := rfl
theorem mi_190 : mtI MM 190 = c190 := rfl
theorem mi_191 : mtI MM 191 = c191 := rfl
theorem mi_192 : mtI MM 192 = c192 := rfl
theorem mi_193 : mtI MM 193 = c193 := rfl
theorem mi_194 : mtI MM 194 = c194 := rfl
theorem mi_195 : mtI MM 195 = c195 := rfl
theorem mi_196 : mtI MM 196 = c196 := rfl
theorem mi_197 : mtI MM 197 = c197 := rfl
theorem mi_198 : mtI MM 198 = c198 := rfl
theorem mi_199 : mtI MM 199 = c199 := rfl
theorem mi_200 : mtI MM 200 = c200 := rfl
theorem mi_201 : mtI MM 201 = c201 := rfl
theorem mi_202 : mtI MM 202 = c202 := rfl
theorem mi_203 : mtI MM 203 = c203 := rfl
theorem mi_204 : mtI MM 204 = c204 := rfl
theorem mi_205 : mtI MM 205 = c205 := rfl
theorem mi_206 : mtI MM 206 = c206 := rfl
theorem mi_207 : mtI MM 207 = c207 := rfl
theorem mi_208 : mtI MM 208 = c208 := rfl
theorem mi_209 : mtI MM 209 = c209 := rfl
theorem mi_210 : mtI MM 210 = c210 := rfl
theorem mi_211 : mtI MM 211 = c211 := rfl
theorem mi_212 : mtI MM 212 = c212 := rfl
theorem mi_213 : mtI MM 213 = c213 := rfl
theorem mi_214 : mtI MM 214 = c214 := rfl
theorem mi_215 : mtI MM 215 = c215 := rfl
theorem mi_216 : mtI MM 216 = c216 := rfl
theorem mi_217 : mtI MM 217 = c217 := rfl
theorem mi_218 : mtI MM 218 = c218 := rfl
theorem mi_219 : mtI MM 219 = c219 := rfl
theorem mi_220 : mtI MM 220 = c220 := rfl
theorem mi_221 : mtI MM 221 = c221 := rfl
theorem mi_222 : mtI MM 222 = c222 := rfl
theorem mi_223 : mtI MM 223 = c223 := rfl
theorem mi_224 : mtI MM 224 = c224 := rfl
theorem mi_225 : mtI MM 225 = c225 := rfl
theorem mi_226 : mtI MM 226 = c226 := rfl
theorem mi_227 : mtI MM 227 = c227 := rfl
theorem mi_228 : mtI MM 228 = c228 := rfl
theorem mi_229 : mtI MM 229 = c229 := rfl
theorem mi_230 : mtI MM 230 = c230 := rfl
theorem mi_231 : mtI MM 231 = c231 := rfl
theorem mi_232 : mtI MM 232 = c232 := rfl
theorem mi_233 : mtI MM 233 = c233 := rfl
theorem mi_234 : mtI MM 234 = c234 := rfl
theorem mi_235 : mtI MM 235 = c235 := rfl
theorem mi_236 : mtI MM 236 = c236 := rfl
theorem ml_0 : mtL MM 0 = 2 := rfl
theorem ml_1 : mtL MM 1 = 4 := rfl
theorem ml_2 : mtL MM 2 = 4 := rfl
theorem ml_3 : mtL MM 3 = 2 := rfl
theorem ml_4 : mtL MM 4 = 4 := rfl
theorem ml_5 : mtL MM 5 = 6 := rfl
theorem ml_6 : mtL MM 6 = 4 := rfl
theorem ml_7 : mtL MM 7 = 8 := rfl
theorem ml_8 : mtL MM 8 = 1 := rfl
theorem ml_9 : mtL MM 9 = 3 := rfl
theorem ml_10 : mtL MM 10 = 2 := rfl
theorem ml_11 : mtL MM 11 = 1 := rfl
theorem ml_12 : mtL MM 12 = 2 := rfl
theorem ml_13 : mtL MM 13 = 6 := rfl
theorem ml_14 : mtL MM 14 = 5 := rfl
theorem ml_15 : mtL MM 15 = 4 := rfl
theorem ml_16 : mtL MM 16 = 3 := rfl
theorem ml_17 : mtL MM 17 = 5 := rfl
theorem ml_18 : mtL MM 18 = 5 := rfl
theorem ml_19 : mtL MM 19 = 1 := rfl
theorem ml_20 : mtL MM 20 = 1 := rfl
theorem ml_21 : mtL MM 21 = 2 := rfl
theorem ml_22 : mtL MM 22 = 2 := rfl
theorem ml_23 : mtL MM 23 = 2 := rfl
theorem ml_24 : mtL MM 24 = 2 := rfl
theorem ml_25 : mtL MM 25 = 3 := rfl
theorem ml_26 : mtL MM 26 = 3 := rfl
theorem ml_27 : mtL MM 27 = 2 := rfl
theorem ml_28 : mtL MM 28 = 3 := rfl
theorem ml_29 : mtL MM 29 = 4 := rfl
theorem ml_30 : mtL MM 30 = 3 := rfl
theorem ml_31 : mtL MM 31 = 4 := rfl
theorem ml_32 : mtL MM 32 = 2 := rfl
theorem ml_33 : mtL MM 33 = 2 := rfl
theorem ml_34 : mtL MM 34 = 3 := rfl
theorem ml_35 : mtL MM 35 = 3 := rfl
theorem ml_36 : mtL MM 36 = 4 := rfl
theorem ml_37 : mtL MM 37 = 2 := rfl
theorem ml_38 : mtL MM 38 = 2 := rfl
theorem ml_39 : mtL MM 39 = 2 := rfl
theorem ml_40 : mtL MM 40 = 4 := rfl
theorem ml_41 : mtL MM 41 = 3 := rfl
theorem ml_42 : mtL MM 42 = 4 := rfl
theorem ml_43 : mtL MM 43 = 4 := rfl
theorem ml_44 : mtL MM 44 = 4 := rfl
theorem ml_45 : mtL MM 45 = 11 := rfl
theorem ml_46 : mtL MM 46 = 3 := rfl
theorem ml_47 : mtL MM 47 = 1 := rfl
theorem ml_48 : mtL MM 48 = 2 := rfl
theorem ml_49 : mtL MM 49 = 5 := rfl
theorem ml_50 : mtL MM 50 = 4 := rfl
theorem ml_51 : mtL MM 51 = 3 := rfl
theorem ml_52 : mtL MM 52 = 6 := rfl
theorem ml_53 : mtL MM 53 = 6 := rfl
theorem ml_54 : mtL MM 54 = 2 := rfl
theorem ml_55 : mtL MM 55 = 1 := rfl
theorem ml_56 : mtL MM 56 = 2 := rfl
theorem ml_57 : mtL MM 57 = 3 := rfl
theorem ml_58 : mtL MM 58 = 3 := rfl
theorem ml_59 : mtL MM 59 = 4 := rfl
theorem ml_60 : mtL MM 60 = 1 := rfl
theorem ml_61 : mtL MM 61 = 5 := rfl
theorem ml_62 : mtL MM 62 = 3 := rfl
theorem ml_63 : mtL MM 63 = 10 := rfl
theorem ml_64 : mtL MM 64 = 2 := rfl
theorem ml_65 : mtL MM 65 = 2 := rfl
theorem ml_66 : mtL MM 66 = 6 := rfl
theorem ml_67 : mtL MM 67 = 3 := rfl
theorem ml_68 : mtL MM 68 = 3 := rfl
theorem ml_69 : mtL MM 69 = 2 := rfl
theorem ml_70 : mtL MM 70 = 7 := rfl
theorem ml_71 : mtL MM 71 = 3 := rfl
theorem ml_72 : mtL MM 72 = 3 := rfl
theorem ml_73 : mtL MM 73 = 6 := rfl
theorem ml_74 : mtL MM 74 = 6 := rfl
theorem ml_75 : mtL MM 75 = 4 := rfl
theorem ml_76 : mtL MM 76 = 4 := rfl
theorem ml_77 : mtL MM 77 = 3 := rfl
theorem ml_78 : mtL MM 78 = 7 := rfl
theorem ml_79 : mtL MM 79 = 2 := rfl
theorem ml_80 : mtL MM 80 = 1 := rfl
theorem ml_81 : mtL MM 81 = 4 := rfl
theorem ml_82 : mtL MM 82 = 8 := rfl
theorem ml_83 : mtL MM 83 = 4 := rfl
theorem ml_84 : mtL MM 84 = 2 := rfl
theorem ml_85 : mtL MM 85 = 1 := rfl
theorem ml_86 : mtL MM 86 = 1 := rfl
theorem ml_87 : mtL MM 87 = 7 := rfl
theorem ml_88 : mtL MM 88 = 4 := rfl
theorem ml_89 : mtL MM 89 = 5 := rfl
theorem ml_90 : mtL MM 90 = 5 := rfl
theorem ml_91 : mtL MM 91 = 2 := rfl
theorem ml_92 : mtL MM 92 = 4 := rfl
theorem ml_93 : mtL MM 93 = 8 := rfl
theorem ml_94 : mtL MM 94 = 7 := rfl
theorem ml_95 : mtL MM 95 = 3 := rfl
theorem ml_96 : mtL MM 96 = 5 := rfl
theorem ml_97 : mtL MM 97 = 3 := rfl
theorem ml_98 : mtL MM 98 = 3 := rfl
theorem ml_99 : mtL MM 99 = 3 := rfl
theorem ml_100 : mtL MM 100 = 2 := rfl
theorem ml_101 : mtL MM 101 = 2 := rfl
theorem ml_102 : mtL MM 102 = 2 := rfl
theorem ml_103 : mtL MM 103 = 2 := rfl
theorem ml_104 : mtL MM 104 = 3 := rfl
theorem ml_105 : mtL MM 105 = 3 := rfl
theorem ml_106 : mtL MM 106 = 4 := rfl
theorem ml_107 : mtL MM 107 = 3 := rfl
theorem ml_108 : mtL MM 108 = 4 := rfl
theorem ml_109 : mtL MM 109 = 2 := rfl
theorem ml_110 : mtL MM 110 = 3 := rfl
theorem ml_111 : mtL MM 111 = 2 := rfl
theorem ml_112 : mtL MM 112 = 2 := rfl
theorem ml_113 : mtL MM 113 = 3 := rfl
theorem ml_114 : mtL MM 114 = 3 := rfl
theorem ml_115 : mtL MM 115 = 5 := rfl
theorem ml_116 : mtL MM 116 = 2 := rfl
theorem ml_117 : mtL MM 117 = 3 := rfl
theorem ml_118 : mtL MM 118 = 3 := rfl
theorem ml_119 : mtL MM 119 = 4 := rfl
theorem ml_120 : mtL MM 120 = 3 := rfl
theorem ml_121 : mtL MM 121 = 2 := rfl
theorem ml_122 : mtL MM 122 = 8 := rfl
theorem ml_123 : mtL MM 123 = 2 := rfl
theorem ml_124 : mtL MM 124 = 2 := rfl
theorem ml_125 : mtL MM 125 = 4 := rfl
theorem ml_126 : mtL MM 126 = 4 := rfl
theorem ml_127 : mtL MM 127 = 6 := rfl
theorem ml_128 : mtL MM 128 = 10 := rfl
theorem ml_129 : mtL MM 129 = 3 := rfl
theorem ml_130 : mtL MM 130 = 1 := rfl
theorem ml_131 : mtL MM 131 = 1 := rfl
theorem ml_132 : mtL MM 132 = 2 := rfl
theorem ml_133 : mtL MM 133 = 1 := rfl
theorem ml_134 : mtL MM 134 = 1 := rfl
theorem ml_135 : mtL MM 135 = 1 := rfl
theorem ml_136 : mtL MM 136 = 1 := rfl
theorem ml_137 : mtL MM 137 = 1 := rfl
theorem ml_138 : mtL MM 138 = 2 := rfl
theorem ml_139 : mtL MM 139 = 2 := rfl
theorem ml_140 : mtL MM 140 = 3 := rfl
theorem ml_141 : mtL MM 141 = 4 := rfl
theorem ml_142 : mtL MM 142 = 5 := rfl
theorem ml_143 : mtL MM 143 = 6 := rfl
theorem ml_144 : mtL MM 144 = 4 := rfl
theorem ml_145 : mtL MM 145 = 5 := rfl
theorem ml_146 : mtL MM 146 = 2 := rfl
theorem ml_147 : mtL MM 147 = 5 := rfl
theorem ml_148 : mtL MM 148 = 3 := rfl
theorem ml_149 : mtL MM 149 = 3 := rfl
theorem ml_150 : mtL MM 150 = 3 := rfl
theorem ml_151 : mtL MM 151 = 7 := rfl
theorem ml_152 : mtL MM 152 = 6 := rfl
theorem ml_153 : mtL MM 153 = 9 := rfl
theorem ml_154 : mtL MM 154 = 2 := rfl
theorem ml_155 : mtL MM 155 = 5 := rfl
theorem ml_156 : mtL MM 156 = 2 := rfl
theorem ml_157 : mtL MM 157 = 4 := rfl
theorem ml_158 : mtL MM 158 = 2 := rfl
theorem ml_159 : mtL MM 159 = 3 := rfl
theorem ml_160 : mtL MM 160 = 4 := rfl
theorem ml_161 : mtL MM 161 = 1 := rfl
theorem ml_162 : mtL MM 162 = 4 := rfl
theorem ml_163 : mtL MM 163 = 8 := rfl
theorem ml_164 : mtL MM 164 = 2 := rfl
theorem ml_165 : mtL MM 165 = 9 := rfl
theorem ml_166 : mtL MM 166 = 2 := rfl
theorem ml_167 : mtL MM 167 = 10 := rfl
theorem ml_168 : mtL MM 168 = 2 := rfl
theorem ml_169 : mtL MM 169 = 3 := rfl
theorem ml_170 : mtL MM 170 = 3 := rfl
theorem ml_171 : mtL MM 171 = 3 := rfl
theorem ml_172 : mtL MM 172 = 3 := rfl
theorem ml_173 : mtL MM 173 = 4 := rfl
theorem ml_174 : mtL MM 174 = 4 := rfl
theorem ml_175 : mtL MM 175 = 2 := rfl
theorem ml_176 : mtL MM 176 = 6 := rfl
theorem ml_177 : mtL MM 177 = 3 := rfl
theorem ml_178 : mtL MM 178 = 4 := rfl
theorem ml_179 : mtL MM 179 = 2 := rfl
theorem ml_180 : mtL MM 180 = 5 := rfl
theorem ml_181 : mtL MM 181 = 10 := rfl
theorem ml_182 : mtL MM 182 = 5 := rfl
theorem ml_183 : mtL MM 183 = 4 := rfl
theorem ml_184 : mtL MM 184 = 7 := rfl
theorem ml_185 : mtL MM 185 = 8 := rfl
theorem ml_186 : mtL MM 186 = 5 := rfl
theorem ml_187 : mtL MM 187 = 2 := rfl
theorem ml_188 : mtL MM 188 = 3 := rfl
theorem ml_189 : mtL MM 189 = 1 := rfl
theorem ml_190 : mtL MM 190 = 3 := rfl
theorem ml_191 : mtL MM 191 = 2 := rfl
theorem ml_192 : mtL MM 192 = 1 := rfl
theorem ml_193 : mtL MM 193 = 1 := rfl
theorem ml_194 : mtL MM 194 = 2 := rfl
theorem ml_195 : mtL MM 195 = 2 := rfl
theorem ml_196 : mtL MM 196 = 4 := rfl
theorem ml_197 : mtL MM 197 = 4 := rfl
theorem ml_198 : mtL MM 198 = 3 := rfl
theorem ml_199 : mtL MM 199 = 3 := rfl
theorem ml_200 : mtL MM 200 = 4 := rfl
theorem ml_201 : mtL MM 201 = 5 := rfl
theorem ml_202 : mtL MM 202 = 2 := rfl
theorem ml_203 : mtL MM 203 = 3 := rfl
theorem ml_204 : mtL MM 204 = 4 := rfl
theorem ml_205 : mtL MM 205 = 3 := rfl
theorem ml_206 : mtL MM 206 = 1 := rfl
theorem ml_207 : mtL MM 207 = 4 := rfl
theorem ml_208 : mtL MM 208 = 8 := rfl
theorem ml_209 : mtL MM 209 = 4 := rfl
theorem ml_210 : mtL MM 210 = 2 := rfl
theorem ml_211 : mtL MM 211 = 1 := rfl
theorem ml_212 : mtL MM 212 = 10 := rfl
theorem ml_213 : mtL MM 213 = 2 := rfl
theorem ml_214 : mtL MM 214 = 4 := rfl
theorem ml_215 : mtL MM 215 = 1 := rfl
theorem ml_216 : mtL MM 216 = 5 := rfl
theorem ml_217 : mtL MM 217 = 4 := rfl
theorem ml_218 : mtL MM 218 = 7 := rfl
theorem ml_219 : mtL MM 219 = 8 := rfl
theorem ml_220 : mtL MM 220 = 1 := rfl
theorem ml_221 : mtL MM 221 = 4 := rfl
theorem ml_222 : mtL MM 222 = 1 := rfl
theorem ml_223 : mtL MM 223 = 1 := rfl
theorem ml_224 : mtL MM 224 = 3 := rfl
theorem ml_225 : mtL MM 225 = 1 := rfl
theorem ml_226 : mtL MM 226 = 2 := rfl
theorem ml_227 : mtL MM 227 = 2 := rfl
theorem ml_228 : mtL MM 228 = 1 := rfl
theorem ml_229 : mtL MM 229 = 2 := rfl
theorem ml_230 : mtL MM 230 = 1 := rfl
theorem ml_231 : mtL MM 231 = 1 := rfl
theorem ml_232 : mtL MM 232 = 2 := rfl
theorem ml_233 : mtL MM 233 = 2 := rfl
theorem ml_234 : mtL MM 234 = 3 := rfl
theorem ml_235 : mtL MM 235 = 2 := rfl
def e35_2 (G : Gg) (ρ : Rg) (d : Nat) (v0 : Nat) (v1 : Int) (s : Int × Sg) (rr : Option MV × Mh) : Prop := Ex d 35 2 [(2, ((v0 : Nat) : Int)), (0, v1), (0, s.1)] [] (G, ρ, s.2) rr
def e92_6 (G : Gg) (ρ : Rg) (d : Nat) (v0 : Nat) (v1 : Nat) (s : Int × Sg) (rr : Option MV × Mh) : Prop := ∀ (j3 : MV), Ex d 92 6 [(2, ((v0 : Nat) : Int)), (2, ((v1 : Nat) : Int)), (0, s.1), j3] [] (G, ρ, s.2) rr
def e92_12 (G : Gg) (ρ : Rg) (d : Nat) (v0 : Nat) (v1 : Nat) (v2 : Int) (s : Int × Sg) (rr : Option MV × Mh) : Prop := Ex d 92 12 [(2, ((v0 : Nat) : Int)), (2, ((v1 : Nat) : Int)), (0, v2), (0, s.1)] [] (G, ρ, s.2) rr
def e93_8 (G : Gg) (ρ : Rg) (d : Nat) (v0 : Nat) (v1 : Int) (v2 : Int) (m : Sg) (s : Int × Int × Int × Int) (rr : Option MV × Mh) : Prop := ∀ (j7 : MV), Ex d 93 8 [(2, ((v0 : Nat) : Int)), (0, v1), (0, v2), (0, s.1), (0, s.2.1), (0, s.2.2.1), (0, s.2.2.2), j7] [] (G, ρ, m) rr
def e87_14 (G : Gg) (ρ : Rg) (d : Nat) (v0 : Nat) (s : Int × Int × Int × Sg) (rr : Option MV × Mh) : Prop := ∀ (j1 : Nat) (j5 : MV) (j6 : MV), Ex d 87 14 [(2, ((v0 : Nat) : Int)), (2, ((j1 : Nat) : Int)), (0, s.1), (0, s.2.1), (0, s.2.2.1), j5, j6] [] (G, ρ, s.2.2.2) rr
def e87_24 (G : Gg) (ρ : Rg) (d : Nat) (v0 : Nat) (v4 : Int) (s : Int × Int × Int × Sg) (rr : Option MV × Mh) : Prop := ∀ (j1 : Nat) (j6 : MV), Ex d 87 24 [(2, ((v0 : Nat) : Int)), (2, ((j1 : Nat) : Int)), (0, s.1), (0, s.2.1), (0, v4), (0, s.2.2.1), j6] [] (G, ρ, s.2.2.2) rr
def e2_2 (G : Gg) (ρ : Rg) (d : Nat) (v0 : Nat) (s : Int × Sg) (rr : Option MV × Mh) : Prop := ∀ (j1 : Int) (j3 : MV), Ex d 2 2 [(2, ((v0 : Nat) : Int)), (0, j1), (0, s.1), j3] [] (G, ρ, s.2) rr
def e2_9 (G : Gg) (ρ : Rg) (d : Nat) (v0 : Nat) (v2 : Int) (s : Int × Sg) (rr : Option MV × Mh) : Prop := ∀ (j1 : Int), Ex d 2 9 [(2, ((v0 : Nat) : Int)), (0, j1), (0, v2), (0, s.1)] [] (G, ρ, s.2) rr
def e41_2 (G : Gg) (ρ : Rg) (d : Nat) (v0 : Nat) (v1 : Nat) (s : Int × Sg) (rr : Option MV × Mh) : Prop := Ex d 41 2 [(2, ((v0 : Nat) : Int)), (2, ((v1 : Nat) : Int)), (0, s.1)] [] (G, ρ, s.2) rr
def e42_11 (G : Gg) (ρ : Rg) (d : Nat) (v0 : Nat) (v1 : Nat) (m : Sg) (s : Int × Int) (rr : Option MV × Mh) : Prop := Ex d 42 11 [(2, ((v0 : Nat) : Int)), (2, ((v1 : Nat) : Int)), (0, s.1), (0, s.2)] [] (G, ρ, m) rr
def e1_49 (G : Gg) (ρ : Rg) (d : Nat) (v0 : Nat) (s : Int × Sg) (rr : Option MV × Mh) : Prop := ∀ (j1 : Nat) (j3 : MV), Ex d 1 49 [(2, ((v0 : Nat) : Int)), (2, ((j1 : Nat) : Int)), (0, s.1), j3] [] (G, ρ, s.2) rr
def e1_60 (G : Gg) (ρ : Rg) (d : Nat) (v0 : Nat) (v2 : Int) (s : Int × Sg) (rr : Option MV × Mh) : Prop := ∀ (j1 : Nat), Ex d 1 60 [(2, ((v0 : Nat) : Int)), (2, ((j1 : Nat) : Int)), (0, v2), (0, s.1)] [] (G, ρ, s.2) rr
def e5_10 (G : Gg) (ρ : Rg) (d : Nat) (v0 : Nat) (v1 : Int) (v2 : Int) (v3 : Int) (s : Int × Sg) (rr : Option MV × Mh) : Prop := ∀ (j5 : MV), Ex d 5 10 [(2, ((v0 : Nat) : Int)), (0, v1), (0, v2), (0, v3), (0, s.1), j5] [] (G, ρ, s.2) rr
def e7_19 (G : Gg) (ρ : Rg) (d : Nat) (v0 : Nat) (v3 : Int) (m : Sg) (s : Int × Int × Int) (rr : Option MV × Mh) : Prop := ∀ (j1 : Int) (j2 : Int), Ex d 7 19 [(2, ((v0 : Nat) : Int)), (0, j1), (0, j2), (0, v3), (1, s.1), (9, 0), (0, s.2.1), (0, s.2.2)] [] (G, ρ, m) rr
def e4_19 (G : Gg) (ρ : Rg) (d : Nat) (v0 : Nat) (s : Int × Sg) (rr : Option MV × Mh) : Prop := ∀ (j2 : MV) (j3 : MV), Ex d 4 19 [(2, ((v0 : Nat) : Int)), (0, s.1), j2, j3] [] (G, ρ, s.2) rr
def e9_2 (G : Gg) (ρ : Rg) (d : Nat) (v0 : Nat) (v1 : Int) (s : Int × Sg) (rr : Option MV × Mh) : Prop := Ex d 9 2 [(2, ((v0 : Nat) : Int)), (3, v1), (0, s.1)] [] (G, ρ, s.2) rr
def e14_16 (G : Gg) (ρ : Rg) (d : Nat) (v0 : Nat) (v3 : Int) (v4 : Int) (m : Sg) (s : Int) (rr : Option MV × Mh) : Prop := ∀ (j1 : Int), Ex d 14 16 [(2, ((v0 : Nat) : Int)), (0, j1), (0, s), (0, v3), (0, v4)] [] (G, ρ, m) rr
def e18_10 (G : Gg) (ρ : Rg) (d : Nat) (v0 : Nat) (v1 : Int) (v2 : Int) (m : Sg) (s : Int) (rr : Option MV × Mh) : Prop := ∀ (j3 : Int), Ex d 18 10 [(2, ((v0 : Nat) : Int)), (3, v1), (0, v2), (0, j3), (0, s)] [] (G, ρ, m) rr
def e17_4 (G : Gg) (ρ : Rg) (d : Nat) (v0 : Nat) (v1 : Int) (v2 : Int) (m : Sg) (s : Int × Int) (rr : Option MV × Mh) : Prop := Ex d 17 4 [(2, ((v0 : Nat) : Int)), (0, v1), (0, v2), (0, s.1), (0, s.2)] [] (G, ρ, m) rr
def e13_6 (G : Gg) (ρ : Rg) (d : Nat) (v0 : Nat) (s : Int × Int × Int × Sg) (rr : Option MV × Mh) : Prop := ∀ (j4 : MV) (j5 : MV), Ex d 13 6 [(2, ((v0 : Nat) : Int)), (0, s.1), (0, s.2.1), (0, s.2.2.1), j4, j5] [] (G, ρ, s.2.2.2) rr
def e30_8 (G : Gg) (ρ : Rg) (d : Nat) (v0 : Nat) (v1 : Int) (s : Int × Sg) (rr : Option MV × Mh) : Prop := Ex d 30 8 [(2, ((v0 : Nat) : Int)), (0, v1), (0, s.1)] [] (G, ρ, s.2) rr
def e29_8 (G : Gg) (ρ : Rg) (d : Nat) (v0 : Nat) (v1 : Int) (s : Int × Sg) (rr : Option MV × Mh) : Prop := ∀ (j3 : MV), Ex d 29 8 [(2, ((v0 : Nat) : Int)), (0, v1), (0, s.1), j3] [] (G, ρ, s.2) rr
def e26_8 (G : Gg) (ρ : Rg) (d : Nat) (v0 : Nat) (v1 : Int) (s : Int × Sg) (rr : Option MV × Mh) : Prop := Ex d 26 8 [(2, ((v0 : Nat) : Int)), (0, v1), (0, s.1)] [] (G, ρ, s.2) rr
def e25_8 (G : Gg) (ρ : Rg) (d : Nat) (v0 : Nat) (v1 : Int) (s : Int × Sg) (rr : Option MV × Mh) : Prop := Ex d 25 8 [(2, ((v0 : Nat) : Int)), (0, v1), (0, s.1)] [] (G, ρ, s.2) rr
def e45_10 (G : Gg) (ρ : Rg) (d : Nat) (v0 : Nat) (m : Sg) (s : Int × Int × Int × Int × Int) (rr : Option MV × Mh) : Prop := ∀ (j1 : Int) (j9 : MV) (j10 : MV), Ex d 45 10 [(2, ((v0 : Nat) : Int)), (1, j1), (9, 0), (0, s.1), (0, s.2.1), (0, s.2.2.1), (1, s.2.2.2.1), (9, 0), (0, s.2.2.2.2), j9, j10] [] (G, ρ, m) rr
def e49_12 (G : Gg) (ρ : Rg) (d : Nat) (v0 : Nat) (v1 : Int) (s : Int × Sg) (rr : Option MV × Mh) : Prop := ∀ (j2 : Int) (j3 : Int), Ex d 49 12 [(2, ((v0 : Nat) : Int)), (0, v1), (0, j2), (0, j3), (0, s.1)] [] (G, ρ, s.2) rr
def e56_2 (G : Gg) (ρ : Rg) (d : Nat) (v0 : Nat) (s : Int × Sg) (rr : Option MV × Mh) : Prop := Ex d 56 2 [(2, ((v0 : Nat) : Int)), (0, s.1)] [] (G, ρ, s.2) rr
def e56_16 (G : Gg) (ρ : Rg) (d : Nat) (v0 : Nat) (s : Int × Sg) (rr : Option MV × Mh) : Prop := Ex d 56 16 [(2, ((v0 : Nat) : Int)), (0, s.1)] [] (G, ρ, s.2) rr
def e57_4 (G : Gg) (ρ : Rg) (d : Nat) (v0 : Nat) (m : Sg) (s : Int × Int) (rr : Option MV × Mh) : Prop := Ex d 57 4 [(2, ((v0 : Nat) : Int)), (0, s.1), (0, s.2)] [] (G, ρ, m) rr
def e63_15 (G : Gg) (ρ : Rg) (d : Nat) (v0 : Nat) (v1 : Nat) (v3 : Int) (v4 : Int) (v5 : Int) (s : Int × Sg) (rr : Option MV × Mh) : Prop := ∀ (j2 : Int) (j7 : MV) (j8 : MV) (j9 : MV), Ex d 63 15 [(2, ((v0 : Nat) : Int)), (2, ((v1 : Nat) : Int)), (0, j2), (0, v3), (0, v4), (0, v5), (0, s.1), j7, j8, j9] [] (G, ρ, s.2) rr
def e61_17 (G : Gg) (ρ : Rg) (d : Nat) (v0 : Nat) (v1 : Nat) (v2 : Int) (s : Int × Sg) (rr : Option MV × Mh) : Prop := ∀ (j4 : MV), Ex d 61 17 [(2, ((v0 : Nat) : Int)), (2, ((v1 : Nat) : Int)), (0, v2), (0, s.1), j4] [] (G, ρ, s.2) rr
def e61_32 (G : Gg) (ρ : Rg) (d : Nat) (v0 : Nat) (v1 : Nat) (v2 : Int) (v3 : Int) (s : Int × Sg) (rr : Option MV × Mh) : Prop := Ex d 61 32 [(2, ((v0 : Nat) : Int)), (2, ((v1 : Nat) : Int)), (0, v2), (0, v3), (0, s.1)] [] (G, ρ, s.2) rr
def e61_48 (G : Gg) (ρ : Rg) (d : Nat) (v0 : Nat) (v1 : Nat) (v2 : Int) (v3 : Int) (s : Int × Sg) (rr : Option MV × Mh) : Prop := Ex d 61 48 [(2, ((v0 : Nat) : Int)), (2, ((v1 : Nat) : Int)), (0, v2), (0, v3), (0, s.1)] [] (G, ρ, s.2) rr
def e62_4 (G : Gg) (ρ : Rg) (d : Nat) (v0 : Nat) (m : Sg) (s : Int × Int) (rr : Option MV × Mh) : Prop := Ex d 62 4 [(2, ((v0 : Nat) : Int)), (0, s.1), (0, s.2)] [] (G, ρ, m) rr
def e66_5 (G : Gg) (ρ : Rg) (d : Nat) (v0 : Nat) (v1 : Nat) (v2 : Int) (v3 : Int) (v4 : Int) (s : Int × Sg) (rr : Option MV × Mh) : Prop := Ex d 66 5 [(2, ((v0 : Nat) : Int)), (2, ((v1 : Nat) : Int)), (0, v2), (0, v3), (0, v4), (0, s.1)] [] (G, ρ, s.2) rr
def e70_2 (G : Gg) (ρ : Rg) (d : Nat) (v0 : Nat) (v1 : Int) (v2 : Nat) (s : Int × Sg) (rr : Option MV × Mh) : Prop := ∀ (j4 : MV) (j5 : MV) (j6 : MV), Ex d 70 2 [(2, ((v0 : Nat) : Int)), (0, v1), (2, ((v2 : Nat) : Int)), (0, s.1), j4, j5, j6] [] (G, ρ, s.2) rr
def e89_15 (G : Gg) (ρ : Rg) (d : Nat) (v0 : Nat) (v2 : Int) (m : Sg) (s : Int × Int) (rr : Option MV × Mh) : Prop := ∀ (j1 : Int), Ex d 89 15 [(2, ((v0 : Nat) : Int)), (0, j1), (0, v2), (0, s.1), (0, s.2)] [] (G, ρ, m) rr
def e73_13 (G : Gg) (ρ : Rg) (d : Nat) (v0 : Nat) (v1 : Int) (v2 : Int) (m : Sg) (s : Int × Int) (rr : Option MV × Mh) : Prop := ∀ (j5 : MV), Ex d 73 13 [(2, ((v0 : Nat) : Int)), (0, v1), (0, v2), (0, s.1), (0, s.2), j5] [] (G, ρ, m) rr
def e74_6 (G : Gg) (ρ : Rg) (d : Nat) (v0 : Nat) (v1 : Int) (m : Sg) (s : Int × Int × Int) (rr : Option MV × Mh) : Prop := ∀ (j5 : MV), Ex d 74 6 [(2, ((v0 : Nat) : Int)), (0, v1), (0, s.1), (0, s.2.1), (0, s.2.2), j5] [] (G, ρ, m) rr
def e75_4 (G : Gg) (ρ : Rg) (d : Nat) (v0 : Nat) (m : Sg) (s : Int × Int) (rr : Option MV × Mh) : Prop := ∀ (j3 : MV), Ex d 75 4 [(2, ((v0 : Nat) : Int)), (0, s.1), (0, s.2), j3] [] (G, ρ, m) rr
def e76_4 (G : Gg) (ρ : Rg) (d : Nat) (v0 : Nat) (m : Sg) (s : Int × Int) (rr : Option MV × Mh) : Prop := ∀ (j3 : MV), Ex d 76 4 [(2, ((v0 : Nat) : Int)), (0, s.1), (0, s.2), j3] [] (G, ρ, m) rr
def e77_4 (G : Gg) (ρ : Rg) (d : Nat) (v0 : Nat) (m : Sg) (s : Int × Int) (rr : Option MV × Mh) : Prop := Ex d 77 4 [(2, ((v0 : Nat) : Int)), (0, s.1), (0, s.2)] [] (G, ρ, m) rr
def e78_10 (G : Gg) (ρ : Rg) (d : Nat) (v0 : Nat) (v1 : Int) (v2 : Int) (v3 : Int) (s : Int × Sg) (rr : Option MV × Mh) : Prop := ∀ (j5 : MV), Ex d 78 10 [(2, ((v0 : Nat) : Int)), (0, v1), (0, v2), (0, v3), (0, s.1), j5, (9, 0)] [] (G, ρ, s.2) rr
def e78_53 (G : Gg) (ρ : Rg) (d : Nat) (v0 : Nat) (m : Sg) (s : Int × Int × Int) (rr : Option MV × Mh) : Prop := ∀ (j1 : Int) (j2 : Int) (j3 : Int), Ex d 78 53 [(2, ((v0 : Nat) : Int)), (0, j1), (0, j2), (0, j3), (0, s.1), (0, s.2.1), (0, s.2.2)] [] (G, ρ, m) rr
def e81_5 (G : Gg) (ρ : Rg) (d : Nat) (v0 : Nat) (v1 : Nat) (v2 : Int) (s : Int × Sg) (rr : Option MV × Mh) : Prop := Ex d 81 5 [(2, ((v0 : Nat) : Int)), (2, ((v1 : Nat) : Int)), (0, v2), (0, s.1)] [] (G, ρ, s.2) rr
def e82_26 (G : Gg) (ρ : Rg) (d : Nat) (v0 : Nat) (v1 : Int) (v3 : Nat) (v5 : Int) (s : Int × Sg) (rr : Option MV × Mh) : Prop := ∀ (j2 : Int) (j4 : Int) (j7 : MV), Ex d 82 26 [(2, ((v0 : Nat) : Int)), (0, v1), (0, j2), (2, ((v3 : Nat) : Int)), (0, j4), (0, v5), (0, s.1), j7] [] (G, ρ, s.2) rr
def e88_2 (G : Gg) (ρ : Rg) (d : Nat) (v0 : Nat) (v1 : Int) (m : Sg) (s : Int) (rr : Option MV × Mh) : Prop := ∀ (j3 : MV), Ex d 88 2 [(2, ((v0 : Nat) : Int)), (0, v1), (0, s), j3] [] (G, ρ, m) rr
def e90_4 (G : Gg) (ρ : Rg) (d : Nat) (v0 : Nat) (m : Sg) (s : Int × Int) (rr : Option MV × Mh) : Prop := ∀ (j1 : Int), Ex d 90 4 [(2, ((v0 : Nat) : Int)), (0, j1), (0, s.1), (0, s.2), (9, 0)] [] (G, ρ, m) rr
def e90_23 (G : Gg) (ρ : Rg) (d : Nat) (v0 : Nat) (m : Sg) (s : Int × Int × Int) (rr : Option MV × Mh) : Prop := ∀ (j1 : Int), Ex d 90 23 [(2, ((v0 : Nat) : Int)), (0, j1), (0, s.1), (0, s.2.1), (0, s.2.2)] [] (G, ρ, m) rr
def e115_19 (G : Gg) (ρ : Rg) (d : Nat) (v0 : Nat) (v1 : Int) (v2 : Int) (s : Int × Sg) (rr : Option MV × Mh) : Prop := Ex d 115 19 [(2, ((v0 : Nat) : Int)), (0, v1), (1, v2), (9, 0), (0, s.1)] [] (G, ρ, s.2) rr
def e141_2 (G : Gg) (ρ : Rg) (d : Nat) (v0 : Nat) (s : Int × Sg) (rr : Option MV × Mh) : Prop := ∀ (j2 : MV) (j3 : MV), Ex d 141 2 [(2, ((v0 : Nat) : Int)), (0, s.1), j2, j3] [] (G, ρ, s.2) rr
def e120_18 (G : Gg) (ρ : Rg) (d : Nat) (v0 : Nat) (v1 : Int) (s : Int × Sg) (rr : Option MV × Mh) : Prop := Ex d 120 18 [(2, ((v0 : Nat) : Int)), (0, v1), (0, s.1)] [] (G, ρ, s.2) rr
def e128_38 (G : Gg) (ρ : Rg) (d : Nat) (v0 : Nat) (v1 : Int) (v3 : Int) (v4 : Int) (s : Int × Int × Sg) (rr : Option MV × Mh) : Prop := ∀ (j2 : Int) (j7 : MV) (j8 : MV) (j9 : MV), Ex d 128 38 [(2, ((v0 : Nat) : Int)), (0, v1), (0, j2), (0, v3), (0, v4), (0, s.1), (0, s.2.1), j7, j8, j9] [] (G, ρ, s.2.2) rr
def e145_2 (G : Gg) (ρ : Rg) (d : Nat) (v0 : Nat) (v1 : Int) (v2 : Int) (s : Int × Sg) (rr : Option MV × Mh) : Prop := Ex d 145 2 [(2, ((v0 : Nat) : Int)), (0, v1), (1, v2), (9, 0), (0, s.1)] [] (G, ρ, s.2) rr
def e144_144 (d : Nat) (v0 : Nat) (s : Int × Mh) (rr : Option MV × Mh) : Prop := ∀ (j1 : Int) (j2 : Int), Ex d 144 144 [(2, ((v0 : Nat) : Int)), (0, j1), (0, j2), (0, s.1)] [] (s.2.1, s.2.2.1, s.2.2.2) rr
def e144_156 (d : Nat) (v0 : Nat) (s : Int × Mh) (rr : Option MV × Mh) : Prop := ∀ (j1 : Int) (j2 : Int), Ex d 144 156 [(2, ((v0 : Nat) : Int)), (0, j1), (0, j2), (0, s.1)] [] (s.2.1, s.2.2.1, s.2.2.2) rr
def e153_2 (G : Gg) (ρ : Rg) (d : Nat) (v0 : Nat) (v1 : Int) (s : Int × Sg) (rr : Option MV × Mh) : Prop := Ex d 153 2 [(2, ((v0 : Nat) : Int)), (0, v1), (0, s.1), (9, 0), (9, 0), (9, 0), (9, 0), (9, 0), (9, 0)] [] (G, ρ, s.2) rr
def e153_17 (G : Gg) (ρ : Rg) (d : Nat) (v0 : Nat) (v1 : Int) (s : Int × Int × Sg) (rr : Option MV × Mh) : Prop := ∀ (j4 : MV) (j5 : MV) (j6 : MV) (j7 : MV) (j8 : MV), Ex d 153 17 [(2, ((v0 : Nat) : Int)), (0, v1), (0, s.1), (0, s.2.1), j4, j5, j6, j7, j8] [] (G, ρ, s.2.2) rr
def e153_23 (G : Gg) (ρ : Rg) (d : Nat) (v0 : Nat) (v1 : Int) (v2 : Int) (v3 : Int) (s : Int × Sg) (rr : Option MV × Mh) : Prop := ∀ (j5 : MV) (j6 : MV) (j7 : MV) (j8 : MV), Ex d 153 23 [(2, ((v0 : Nat) : Int)), (0, v1), (0, v2), (0, v3), (0, s.1), j5, j6, j7, j8] [] (G, ρ, s.2) rr
def e153_39 (G : Gg) (ρ : Rg) (d : Nat) (v0 : Nat) (v1 : Int) (v3 : Int) (s : Int × Int × Sg) (rr : Option MV × Mh) : Prop := ∀ (j5 : MV) (j6 : MV) (j7 : MV) (j8 : MV), Ex d 153 39 [(2, ((v0 : Nat) : Int)), (0, v1), (0, s.1), (0, v3), (0, s.2.1), j5, j6, j7, j8] [] (G, ρ, s.2.2) rr
def e153_55 (G : Gg) (ρ : Rg) (d : Nat) (v0 : Nat) (v1 : Int) (v2 : Int) (v3 : Int) (v4 : Int) (s : Int × Int × Int × Sg) (rr : Option MV × Mh) : Prop := ∀ (j8 : MV), Ex d 153 55 [(2, ((v0 : Nat) : Int)), (0, v1), (0, v2), (0, v3), (0, v4), (0, s.1), (0, s.2.1), (0, s.2.2.1), j8] [] (G, ρ, s.2.2.2) rr
def e153_118 (G : Gg) (ρ : Rg) (d : Nat) (v0 : Nat) (v1 : Int) (v2 : Int) (v3 : Int) (s : Int × Sg) (rr : Option MV × Mh) : Prop := ∀ (j5 : MV) (j6 : MV) (j7 : MV) (j8 : MV), Ex d 153 118 [(2, ((v0 : Nat) : Int)), (0, v1), (0, v2), (0, v3), (0, s.1), j5, j6, j7, j8] [] (G, ρ, s.2) rr
def e155_4 (G : Gg) (ρ : Rg) (d : Nat) (v0 : Nat) (v1 : Int) (v2 : Int) (s : Int × Int × Sg) (rr : Option MV × Mh) : Prop := Ex d 155 4 [(2, ((v0 : Nat) : Int)), (0, v1), (0, v2), (0, s.1), (0, s.2.1)] [] (G, ρ, s.2.2) rr
def e157_4 (G : Gg) (ρ : Rg) (d : Nat) (v0 : Nat) (v1 : Int) (m : Sg) (s : Int × Int) (rr : Option MV × Mh) : Prop := Ex d 157 4 [(2, ((v0 : Nat) : Int)), (0, v1), (0, s.1), (0, s.2)] [] (G, ρ, m) rr
def e160_20 (G : Gg) (ρ : Rg) (d : Nat) (v0 : Nat) (s : Int × Int × Sg) (rr : Option MV × Mh) : Prop := ∀ (j1 : Int), Ex d 160 20 [(2, ((v0 : Nat) : Int)), (0, j1), (0, s.1), (0, s.2.1)] [] (G, ρ, s.2.2) rr
def e160_32 (G : Gg) (ρ : Rg) (d : Nat) (v0 : Nat) (s : Int × Int × Sg) (rr : Option MV × Mh) : Prop := ∀ (j1 : Int), Ex d 160 32 [(2, ((v0 : Nat) : Int)), (0, j1), (0, s.1), (0, s.2.1)] [] (G, ρ, s.2.2) rr
def e162_2 (G : Gg) (ρ : Rg) (d : Nat) (v0 : Nat) (v1 : Int) (v2 : Int) (s : Int × Sg) (rr : Option MV × Mh) : Prop := Ex d 162 2 [(2, ((v0 : Nat) : Int)), (0, v1), (0, v2), (0, s.1)] [] (G, ρ, s.2) rr
def e163_18 (G : Gg) (ρ : Rg) (d : Nat) (v0 : Nat) (v1 : Int) (s : Int × Sg) (rr : Option MV × Mh) : Prop := ∀ (j3 : MV) (j4 : MV), Ex d 163 18 [(2, ((v0 : Nat) : Int)), (0, v1), (0, s.1), j3, j4, (9, 0), (9, 0), (9, 0)] [] (G, ρ, s.2) rr
def e163_31 (G : Gg) (ρ : Rg) (d : Nat) (v0 : Nat) (v1 : Int) (v2 : Int) (v3 : Int) (s : Int × Sg) (rr : Option MV × Mh) : Prop := Ex d 163 31 [(2, ((v0 : Nat) : Int)), (0, v1), (0, v2), (0, v3), (0, s.1), (9, 0), (9, 0), (9, 0)] [] (G, ρ, s.2) rr
def e163_72 (G : Gg) (ρ : Rg) (d : Nat) (v0 : Nat) (v1 : Int) (s : Int × Sg) (rr : Option MV × Mh) : Prop := ∀ (j3 : MV) (j4 : MV) (j5 : MV) (j6 : MV) (j7 : MV), Ex d 163 72 [(2, ((v0 : Nat) : Int)), (0, v1), (0, s.1), j3, j4, j5, j6, j7] [] (G, ρ, s.2) rr
def e163_85 (G : Gg) (ρ : Rg) (d : Nat) (v0 : Nat) (v1 : Int) (v2 : Int) (v3 : Int) (s : Int × Sg) (rr : Option MV × Mh) : Prop := ∀ (j5 : MV) (j6 : MV) (j7 : MV), Ex d 163 85 [(2, ((v0 : Nat) : Int)), (0, v1), (0, v2), (0, v3), (0, s.1), j5, j6, j7] [] (G, ρ, s.2) rr
def e163_103 (G : Gg) (ρ : Rg) (d : Nat) (v0 : Nat) (v1 : Int) (v2 : Int) (v3 : Int) (v4 : Int) (s : Int × Sg) (rr : Option MV × Mh) : Prop := ∀ (j6 : MV) (j7 : MV), Ex d 163 103 [(2, ((v0 : Nat) : Int)), (0, v1), (0, v2), (0, v3), (0, v4), (0, s.1), j6, j7] [] (G, ρ, s.2) rr
def e163_116 (G : Gg) (ρ : Rg) (d : Nat) (v0 : Nat) (v1 : Int) (v2 : Int) (v3 : Int) (v4 : Int) (v5 : Int) (v6 : Int) (s : Int × Sg) (rr : Option MV × Mh) : Prop := Ex d 163 116 [(2, ((v0 : Nat) : Int)), (0, v1), (0, v2), (0, v3), (0, v4), (0, v5), (0, v6), (0, s.1)] [] (G, ρ, s.2) rr
def e165_16 (G : Gg) (ρ : Rg) (d : Nat) (v0 : Nat) (v1 : Int) (v2 : Int) (s : Int × Sg) (rr : Option MV × Mh) : Prop := Ex d 165 16 [(2, ((v0 : Nat) : Int)), (0, v1), (0, v2), (0, s.1), (9, 0), (9, 0), (9, 0), (9, 0), (9, 0)] [] (G, ρ, s.2) rr
def e165_38 (G : Gg) (ρ : Rg) (d : Nat) (v0 : Nat) (v1 : Int) (v2 : Int) (s : Int × Sg) (rr : Option MV × Mh) : Prop := ∀ (j4 : MV) (j5 : MV) (j6 : MV) (j7 : MV) (j8 : MV), Ex d 165 38 [(2, ((v0 : Nat) : Int)), (0, v1), (0, v2), (0, s.1), j4, j5, j6, j7, j8] [] (G, ρ, s.2) rr
def e165_49 (G : Gg) (ρ : Rg) (d : Nat) (v0 : Nat) (v1 : Int) (v2 : Int) (v3 : Int) (s : Int × Sg) (rr : Option MV × Mh) : Prop := ∀ (j5 : MV) (j6 : MV) (j7 : MV) (j8 : MV), Ex d 165 49 [(2, ((v0 : Nat) : Int)), (0, v1), (0, v2), (0, v3), (0, s.1), j5, j6, j7, j8] [] (G, ρ, s.2) rr
def e165_61 (G : Gg) (ρ : Rg) (d : Nat) (v0 : Nat) (v1 : Int) (v2 : Int) (v3 : Int) (s : Int × Sg) (rr : Option MV × Mh) : Prop := ∀ (j5 : MV) (j6 : MV) (j7 : MV) (j8 : MV), Ex d 165 61 [(2, ((v0 : Nat) : Int)), (0, v1), (0, v2), (0, v3), (0, s.1), j5, j6, j7, j8] [] (G, ρ, s.2) rr
def e165_66 (G : Gg) (ρ : Rg) (d : Nat) (v0 : Nat) (v1 : Int) (v2 : Int) (v3 : Int) (v4 : Int) (s : Int × Sg) (rr : Option MV × Mh) : Prop := ∀ (j6 : MV) (j7 : MV) (j8 : MV), Ex d 165 66 [(2, ((v0 : Nat) : Int)), (0, v1), (0, v2), (0, v3), (0, v4), (0, s.1), j6, j7, j8] [] (G, ρ, s.2) rr
def e165_177 (G : Gg) (ρ : Rg) (d : Nat) (v0 : Nat) (v1 : Int) (v2 : Int) (v3 : Int) (s : Int × Sg) (rr : Option MV × Mh) : Prop := ∀ (j5 : MV) (j6 : MV) (j7 : MV) (j8 : MV), Ex d 165 177 [(2, ((v0 : Nat) : Int)), (0, v1), (0, v2), (0, v3), (0, s.1), j5, j6, j7, j8] [] (G, ρ, s.2) rr
def e165_196 (G : Gg) (ρ : Rg) (d : Nat) (v0 : Nat) (v2 : Int) (m : Sg) (s : Int × Int) (rr : Option MV × Mh) : Prop := ∀ (j1 : Int) (j6 : MV) (j7 : MV) (j8 : MV), Ex d 165 196 [(2, ((v0 : Nat) : Int)), (0, j1), (0, v2), (1, s.1), (9, 0), (0, s.2), j6, j7, j8] [] (G, ρ, m) rr
def e167_13 (G : Gg) (ρ : Rg) (d : Nat) (v0 : Nat) (s : Int × Int × Int × Int × Sg) (rr : Option MV × Mh) : Prop := ∀ (j1 : Int) (j8 : MV) (j9 : MV), Ex d 167 13 [(2, ((v0 : Nat) : Int)), (1, j1), (9, 0), (1, s.1), (9, 0), (0, s.2.1), (0, s.2.2.1), (0, s.2.2.2.1), j8, j9] [] (G, ρ, s.2.2.2.2) rr
def e169_4 (G : Gg) (ρ : Rg) (d : Nat) (m : Sg) (s : Int × Int) (rr : Option MV × Mh) : Prop := ∀ (j0 : Int), Ex d 169 4 [(0, j0), (0, s.1), (0, s.2)] [] (G, ρ, m) rr
def e174_6 (G : Gg) (ρ : Rg) (d : Nat) (v0 : Nat) (v1 : Int) (v2 : Int) (s : Int × Sg) (rr : Option MV × Mh) : Prop := Ex d 174 6 [(2, ((v0 : Nat) : Int)), (0, v1), (0, v2), (0, s.1)] [] (G, ρ, s.2) rr
def e176_13 (G : Gg) (ρ : Rg) (d : Nat) (v0 : Nat) (v1 : Int) (v2 : Int) (m : Sg) (s : Int × Int) (rr : Option MV × Mh) : Prop := ∀ (j5 : MV), Ex d 176 13 [(2, ((v0 : Nat) : Int)), (0, v1), (0, v2), (0, s.1), (0, s.2), j5] [] (G, ρ, m) rr
def e178_4 (G : Gg) (ρ : Rg) (d : Nat) (v0 : Nat) (v1 : Int) (m : Sg) (s : Int × Int) (rr : Option MV × Mh) : Prop := Ex d 178 4 [(2, ((v0 : Nat) : Int)), (0, v1), (0, s.1), (0, s.2)] [] (G, ρ, m) rr
def e180_12 (G : Gg) (ρ : Rg) (d : Nat) (v0 : Nat) (v1 : Int) (m : Sg) (s : Int × Int) (rr : Option MV × Mh) : Prop := ∀ (j4 : MV), Ex d 180 12 [(2, ((v0 : Nat) : Int)), (0, v1), (0, s.1), (0, s.2), j4] [] (G, ρ, m) rr
def e181_27 (G : Gg) (ρ : Rg) (d : Nat) (v0 : Nat) (v1 : Int) (v2 : Int) (v3 : Int) (m : Sg) (s : Int × Int × Int) (rr : Option MV × Mh) : Prop := ∀ (j7 : MV) (j8 : MV) (j9 : MV), Ex d 181 27 [(2, ((v0 : Nat) : Int)), (0, v1), (0, v2), (0, v3), (0, s.1), (0, s.2.1), (0, s.2.2), j7, j8, j9] [] (G, ρ, m) rr
def e181_34 (G : Gg) (ρ : Rg) (d : Nat) (v0 : Nat) (v1 : Int) (v2 : Int) (v3 : Int) (v4 : Int) (v5 : Int) (v6 : Int) (m : Sg) (s : Int × Int) (rr : Option MV × Mh) : Prop := ∀ (j9 : MV), Ex d 181 34 [(2, ((v0 : Nat) : Int)), (0, v1), (0, v2), (0, v3), (0, v4), (0, v5), (0, v6), (0, s.1), (0, s.2), j9] [] (G, ρ, m) rr
def e184_7 (G : Gg) (ρ : Rg) (d : Nat) (v0 : Nat) (m : Sg) (s : Int × Int × Int) (rr : Option MV × Mh) : Prop := ∀ (j1 : Int) (j2 : Int), Ex d 184 7 [(2, ((v0 : Nat) : Int)), (0, j1), (0, j2), (1, s.1), (9, 0), (0, s.2.1), (0, s.2.2)] [] (G, ρ, m) rr
def e185_12 (G : Gg) (ρ : Rg) (d : Nat) (v0 : Nat) (v1 : Int) (v2 : Int) (s : Int × Sg) (rr : Option MV × Mh) : Prop := Ex d 185 12 [(2, ((v0 : Nat) : Int)), (0, v1), (0, v2), (0, s.1), (9, 0), (9, 0), (9, 0), (9, 0)] [] (G, ρ, s.2) rr
def e185_32 (G : Gg) (ρ : Rg) (d : Nat) (v0 : Nat) (v1 : Int) (v2 : Int) (s : Int × Sg) (rr : Option MV × Mh) : Prop := ∀ (j4 : MV) (j5 : MV) (j6 : MV) (j7 : MV), Ex d 185 32 [(2, ((v0 : Nat) : Int)), (0, v1), (0, v2), (0, s.1), j4, j5, j6, j7] [] (G, ρ, s.2) rr
def e185_38 (G : Gg) (ρ : Rg) (d : Nat) (v0 : Nat) (v1 : Int) (v2 : Int) (v3 : Int) (s : Int × Sg) (rr : Option MV × Mh) : Prop := ∀ (j5 : MV) (j6 : MV) (j7 : MV), Ex d 185 38 [(2, ((v0 : Nat) : Int)), (0, v1), (0, v2), (0, v3), (0, s.1), j5, j6, j7] [] (G, ρ, s.2) rr
def e186_18 (G : Gg) (ρ : Rg) (d : Nat) (v0 : Nat) (v1 : Int) (v2 : Int) (s : Int × Sg) (rr : Option MV × Mh) : Prop := Ex d 186 18 [(2, ((v0 : Nat) : Int)), (0, v1), (1, v2), (9, 0), (0, s.1)] [] (G, ρ, s.2) rr
def e188_0 (G : Gg) (ρ : Rg) (d : Nat) (v0 : Nat) (s : Sg) (rr : Option MV × Mh) : Prop := Ex d 188 0 [(2, ((v0 : Nat) : Int)), (9, 0), (9, 0)] [] (G, ρ, s) rr
def e188_106 (G : Gg) (ρ : Rg) (d : Nat) (v0 : Nat) (s : Int × Sg) (rr : Option MV × Mh) : Prop := ∀ (j1 : Int), Ex d 188 106 [(2, ((v0 : Nat) : Int)), (0, j1), (0, s.1)] [] (G, ρ, s.2) rr
def e188_55 (G : Gg) (ρ : Rg) (d : Nat) (v0 : Nat) (s : Int × Sg) (rr : Option MV × Mh) : Prop := ∀ (j1 : Int), Ex d 188 55 [(2, ((v0 : Nat) : Int)), (0, j1), (0, s.1)] [] (G, ρ, s.2) rr
def e195_3 (G : Gg) (ρ : Rg) (d : Nat) (v0 : Nat) (s : Int × Sg) (rr : Option MV × Mh) : Prop := Ex d 195 3 [(2, ((v0 : Nat) : Int)), (0, s.1)] [] (G, ρ, s.2) rr
def e196_3 (G : Gg) (ρ : Rg) (d : Nat) (v0 : Nat) (s : Int × Sg) (rr : Option MV × Mh) : Prop := ∀ (j2 : MV) (j3 : MV), Ex d 196 3 [(2, ((v0 : Nat) : Int)), (0, s.1), j2, j3] [] (G, ρ, s.2) rr
def e198_3 (G : Gg) (ρ : Rg) (d : Nat) (v0 : Nat) (s : Int × Sg) (rr : Option MV × Mh) : Prop := ∀ (j2 : MV), Ex d 198 3 [(2, ((v0 : Nat) : Int)), (0, s.1), j2] [] (G, ρ, s.2) rr
def e199_3 (G : Gg) (ρ : Rg) (d : Nat) (v0 : Nat) (s : Int × Sg) (rr : Option MV × Mh) : Prop := ∀ (j2 : MV), Ex d 199 3 [(2, ((v0 : Nat) : Int)), (0, s.1), j2] [] (G, ρ, s.2) rr
def e202_8 (G : Gg) (ρ : Rg) (d : Nat) (v0 : Nat) (s : Int × Sg) (rr : Option MV × Mh) : Prop := Ex d 202 8 [(2, ((v0 : Nat) : Int)), (0, s.1)] [] (G, ρ, s.2) rr
def e208_33 (G : Gg) (ρ : Rg) (d : Nat) (v0 : Nat) (v1 : Int) (s : Int × Int × Int × Sg) (rr : Option MV × Mh) : Prop := ∀ (j2 : Int) (j6 : MV) (j7 : MV), Ex d 208 33 [(2, ((v0 : Nat) : Int)), (0, v1), (0, j2), (0, s.1), (0, s.2.1), (0, s.2.2.1), j6, j7] [] (G, ρ, s.2.2.2) rr
def e209_18 (G : Gg) (ρ : Rg) (d : Nat) (v0 : Nat) (v1 : Int) (s : Int × Sg) (rr : Option MV × Mh) : Prop := ∀ (j3 : MV), Ex d 209 18 [(2, ((v0 : Nat) : Int)), (0, v1), (0, s.1), j3] [] (G, ρ, s.2) rr
def e209_29 (G : Gg) (ρ : Rg) (d : Nat) (v0 : Nat) (v1 : Int) (v2 : Int) (s : Int × Sg) (rr : Option MV × Mh) : Prop := Ex d 209 29 [(2, ((v0 : Nat) : Int)), (0, v1), (0, v2), (0, s.1)] [] (G, ρ, s.2) rr
def e209_43 (G : Gg) (ρ : Rg) (d : Nat) (v0 : Nat) (v1 : Int) (v2 : Int) (s : Int × Sg) (rr : Option MV × Mh) : Prop := Ex d 209 43 [(2, ((v0 : Nat) : Int)), (0, v1), (0, v2), (0, s.1)] [] (G, ρ, s.2) rr
def e214_29 (G : Gg) (ρ : Rg) (d : Nat) (v0 : Nat) (m : Sg) (s : Int × Int) (rr : Option MV × Mh) : Prop := ∀ (j1 : Int), Ex d 214 29 [(2, ((v0 : Nat) : Int)), (0, j1), (0, s.1), (0, s.2)] [] (G, ρ, m) rr
def e216_43 (G : Gg) (ρ : Rg) (d : Nat) (v0 : Nat) (v1 : Int) (v2 : Int) (v3 : Int) (s : Int × Sg) (rr : Option MV × Mh) : Prop := Ex d 216 43 [(2, ((v0 : Nat) : Int)), (0, v1), (0, v2), (0, v3), (0, s.1)] [] (G, ρ, s.2) rr
def e218_57 (G : Gg) (ρ : Rg) (d : Nat) (v0 : Nat) (v1 : Int) (v2 : Int) (v3 : Int) (v4 : Int) (v5 : Int) (s : Int × Sg) (rr : Option MV × Mh) : Prop := Ex d 218 57 [(2, ((v0 : Nat) : Int)), (0, v1), (0, v2), (0, v3), (0, v4), (0, v5), (0, s.1)] [] (G, ρ, s.2) rr
def e218_92 (G : Gg) (ρ : Rg) (d : Nat) (v0 : Nat) (v1 : Int) (v2 : Int) (v3 : Int) (v4 : Int) (v5 : Int) (s : Int × Sg) (rr : Option MV × Mh) : Prop := Ex d 218 92 [(2, ((v0 : Nat) : Int)), (0, v1), (0, v2), (0, v3), (0, v4), (0, v5), (0, s.1)] [] (G, ρ, s.2) rr
def e219_47 (G : Gg) (ρ : Rg) (d : Nat) (v0 : Nat) (v1 : Int) (v3 : Int) (v4 : Int) (s : Int × Int × Sg) (rr : Option MV × Mh) : Prop := ∀ (j2 : Int) (j7 : MV), Ex d 219 47 [(2, ((v0 : Nat) : Int)), (0, v1), (0, j2), (0, v3), (0, v4), (0, s.1), (0, s.2.1), j7] [] (G, ρ, s.2.2) rr
def e221_21 (G : Gg) (ρ : Rg) (d : Nat) (v0 : Nat) (v1 : Int) (v2 : Int) (m : Sg) (s : Int) (rr : Option MV × Mh) : Prop := Ex d 221 21 [(2, ((v0 : Nat) : Int)), (0, v1), (0, v2), (0, s)] [] (G, ρ, m) rr
def e236_16 (d : Nat) (v1 : Nat) (v2 : Nat) (s : Int × Mh) (rr : Option MV × Mh) : Prop := Ex d 236 16 [(4, 0), (2, ((v1 : Nat) : Int)), (2, ((v2 : Nat) : Int)), (0, s.1)] [] (s.2.1, s.2.2.1, s.2.2.2) rr
