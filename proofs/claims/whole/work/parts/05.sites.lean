theorem x_c150 : x_P150.all (x_ckP 150) = true := by decide +kernel
theorem x_c151 : x_P151.all (x_ckP 151) = true := by decide +kernel
theorem x_c152 : x_P152.all (x_ckP 152) = true := by decide +kernel
theorem x_c153_0 : x_P153_0.all (x_ckP 153) = true := by decide +kernel
theorem x_c153_1 : x_P153_1.all (x_ckP 153) = true := by decide +kernel
theorem x_c153 : x_P153.all (x_ckP 153) = true := by simp only [x_P153, List.all_append, x_c153_0, x_c153_1, Bool.and_self]
theorem x_c154 : x_P154.all (x_ckP 154) = true := by decide +kernel
theorem x_c155_0 : x_P155_0.all (x_ckP 155) = true := by decide +kernel
theorem x_c155_1 : x_P155_1.all (x_ckP 155) = true := by decide +kernel
theorem x_c155 : x_P155.all (x_ckP 155) = true := by simp only [x_P155, List.all_append, x_c155_0, x_c155_1, Bool.and_self]
theorem x_c156 : x_P156.all (x_ckP 156) = true := by decide +kernel
theorem x_c157 : x_P157.all (x_ckP 157) = true := by decide +kernel
theorem x_c158 : x_P158.all (x_ckP 158) = true := by decide +kernel
theorem x_c159 : x_P159.all (x_ckP 159) = true := by decide +kernel
theorem x_c160 : x_P160.all (x_ckP 160) = true := by decide +kernel
theorem x_c161 : x_P161.all (x_ckP 161) = true := by decide +kernel
theorem x_c162_0 : x_P162_0.all (x_ckP 162) = true := by decide +kernel
theorem x_c162_1 : x_P162_1.all (x_ckP 162) = true := by decide +kernel
theorem x_c162_2 : x_P162_2.all (x_ckP 162) = true := by decide +kernel
theorem x_c162 : x_P162.all (x_ckP 162) = true := by simp only [x_P162, List.all_append, x_c162_0, x_c162_1, x_c162_2, Bool.and_self]
theorem x_c163 : x_P163.all (x_ckP 163) = true := by decide +kernel
theorem x_c164 : x_P164.all (x_ckP 164) = true := by decide +kernel
theorem x_c165 : x_P165.all (x_ckP 165) = true := by decide +kernel
theorem x_c166 : x_P166.all (x_ckP 166) = true := by decide +kernel
theorem x_c167_0 : x_P167_0.all (x_ckP 167) = true := by decide +kernel
theorem x_c167_1 : x_P167_1.all (x_ckP 167) = true := by decide +kernel
theorem x_c167 : x_P167.all (x_ckP 167) = true := by simp only [x_P167, List.all_append, x_c167_0, x_c167_1, Bool.and_self]
theorem x_c168_0 : x_P168_0.all (x_ckP 168) = true := by decide +kernel
theorem x_c168_1 : x_P168_1.all (x_ckP 168) = true := by decide +kernel
theorem x_c168 : x_P168.all (x_ckP 168) = true := by simp only [x_P168, List.all_append, x_c168_0, x_c168_1, Bool.and_self]
theorem x_c169 : x_P169.all (x_ckP 169) = true := by decide +kernel
theorem x_c170 : x_P170.all (x_ckP 170) = true := by decide +kernel
theorem x_c171 : x_P171.all (x_ckP 171) = true := by decide +kernel
theorem x_c172_0 : x_P172_0.all (x_ckP 172) = true := by decide +kernel
theorem x_c172_1 : x_P172_1.all (x_ckP 172) = true := by decide +kernel
theorem x_c172_2 : x_P172_2.all (x_ckP 172) = true := by decide +kernel
theorem x_c172 : x_P172.all (x_ckP 172) = true := by simp only [x_P172, List.all_append, x_c172_0, x_c172_1, x_c172_2, Bool.and_self]
theorem x_c173 : x_P173.all (x_ckP 173) = true := by decide +kernel
theorem x_c174 : x_P174.all (x_ckP 174) = true := by decide +kernel
theorem x_c175 : x_P175.all (x_ckP 175) = true := by decide +kernel
theorem x_c176_0 : x_P176_0.all (x_ckP 176) = true := by decide +kernel
theorem x_c176_1 : x_P176_1.all (x_ckP 176) = true := by decide +kernel
theorem x_c176 : x_P176.all (x_ckP 176) = true := by simp only [x_P176, List.all_append, x_c176_0, x_c176_1, Bool.and_self]
theorem x_c177 : x_P177.all (x_ckP 177) = true := by decide +kernel
theorem x_c178 : x_P178.all (x_ckP 178) = true := by decide +kernel
theorem x_c179 : x_P179.all (x_ckP 179) = true := by decide +kernel
theorem x_c180 : x_P180.all (x_ckP 180) = true := by decide +kernel
theorem x_c181 : x_P181.all (x_ckP 181) = true := by decide +kernel
theorem x_c182_0 : x_P182_0.all (x_ckP 182) = true := by decide +kernel
theorem x_c182_1 : x_P182_1.all (x_ckP 182) = true := by decide +kernel
theorem x_c182_2 : x_P182_2.all (x_ckP 182) = true := by decide +kernel
theorem x_c182 : x_P182.all (x_ckP 182) = true := by simp only [x_P182, List.all_append, x_c182_0, x_c182_1, x_c182_2, Bool.and_self]
theorem x_c183 : x_P183.all (x_ckP 183) = true := by decide +kernel
theorem x_c184 : x_P184.all (x_ckP 184) = true := by decide +kernel
theorem x_c185 : x_P185.all (x_ckP 185) = true := by decide +kernel
theorem x_c186 : x_P186.all (x_ckP 186) = true := by decide +kernel
theorem x_c187 : x_P187.all (x_ckP 187) = true := by decide +kernel
theorem x_c188 : x_P188.all (x_ckP 188) = true := by decide +kernel
theorem x_c189 : x_P189.all (x_ckP 189) = true := by decide +kernel
theorem x_c190 : x_P190.all (x_ckP 190) = true := by decide +kernel
theorem x_c191 : x_P191.all (x_ckP 191) = true := by decide +kernel
theorem x_c192 : x_P192.all (x_ckP 192) = true := by decide +kernel
theorem x_c193 : x_P193.all (x_ckP 193) = true := by decide +kernel
theorem x_c194 : x_P194.all (x_ckP 194) = true := by decide +kernel
theorem x_c195 : x_P195.all (x_ckP 195) = true := by decide +kernel
theorem x_c196 : x_P196.all (x_ckP 196) = true := by decide +kernel
theorem x_c197 : x_P197.all (x_ckP 197) = true := by decide +kernel
theorem x_c198 : x_P198.all (x_ckP 198) = true := by decide +kernel
theorem x_c199 : x_P199.all (x_ckP 199) = true := by decide +kernel
theorem x_c200_0 : x_P200_0.all (x_ckP 200) = true := by decide +kernel
theorem x_c200_1 : x_P200_1.all (x_ckP 200) = true := by decide +kernel
theorem x_c200_2 : x_P200_2.all (x_ckP 200) = true := by decide +kernel
theorem x_c200_3 : x_P200_3.all (x_ckP 200) = true := by decide +kernel
theorem x_c200_4 : x_P200_4.all (x_ckP 200) = true := by decide +kernel
theorem x_c200_5 : x_P200_5.all (x_ckP 200) = true := by decide +kernel
theorem x_c200_6 : x_P200_6.all (x_ckP 200) = true := by decide +kernel
theorem x_c200_7 : x_P200_7.all (x_ckP 200) = true := by decide +kernel
theorem x_c200_8 : x_P200_8.all (x_ckP 200) = true := by decide +kernel
theorem x_c200 : x_P200.all (x_ckP 200) = true := by simp only [x_P200, List.all_append, x_c200_0, x_c200_1, x_c200_2, x_c200_3, x_c200_4, x_c200_5, x_c200_6, x_c200_7, x_c200_8, Bool.and_self]
/-! Every site of the own tables is in order. -/
def x_allck : Nat → List (List x_P) → Prop
  | _, [] => True
  | j, l :: r => l.all (x_ckP j) = true ∧ x_allck (j + 1) r
theorem x_allck_get : ∀ (ls : List (List x_P)) (k i : Nat), x_allck k ls → (ls.getD i []).all (x_ckP (k + i)) = true
  | [], _, _, _ => by simp
  | l :: r, k, 0, h => h.1
  | l :: r, k, i + 1, h => by
    have h2 := x_allck_get r (k + 1) i h.2
    rw [show k + (i + 1) = k + 1 + i by omega]
    simpa using h2
theorem x_allck_all : x_allck 0 x_progs := ⟨x_c0, ⟨x_c1, ⟨x_c2, ⟨x_c3, ⟨x_c4, ⟨x_c5, ⟨x_c6, ⟨x_c7, ⟨x_c8, ⟨x_c9, ⟨x_c10, ⟨x_c11, ⟨x_c12, ⟨x_c13, ⟨x_c14, ⟨x_c15, ⟨x_c16, ⟨x_c17, ⟨x_c18, ⟨x_c19, ⟨x_c20, ⟨x_c21, ⟨x_c22, ⟨x_c23, ⟨x_c24, ⟨x_c25, ⟨x_c26, ⟨x_c27, ⟨x_c28, ⟨x_c29, ⟨x_c30, ⟨x_c31, ⟨x_c32, ⟨x_c33, ⟨x_c34, ⟨x_c35, ⟨x_c36, ⟨x_c37, ⟨x_c38, ⟨x_c39, ⟨x_c40, ⟨x_c41, ⟨x_c42, ⟨x_c43, ⟨x_c44, ⟨x_c45, ⟨x_c46, ⟨x_c47, ⟨x_c48, ⟨x_c49, ⟨x_c50, ⟨x_c51, ⟨x_c52, ⟨x_c53, ⟨x_c54, ⟨x_c55, ⟨x_c56, ⟨x_c57, ⟨x_c58, ⟨x_c59, ⟨x_c60, ⟨x_c61, ⟨x_c62, ⟨x_c63, ⟨x_c64, ⟨x_c65, ⟨x_c66, ⟨x_c67, ⟨x_c68, ⟨x_c69, ⟨x_c70, ⟨x_c71, ⟨x_c72, ⟨x_c73, ⟨x_c74, ⟨x_c75, ⟨x_c76, ⟨x_c77, ⟨x_c78, ⟨x_c79, ⟨x_c80, ⟨x_c81, ⟨x_c82, ⟨x_c83, ⟨x_c84, ⟨x_c85, ⟨x_c86, ⟨x_c87, ⟨x_c88, ⟨x_c89, ⟨x_c90, ⟨x_c91, ⟨x_c92, ⟨x_c93, ⟨x_c94, ⟨x_c95, ⟨x_c96, ⟨x_c97, ⟨x_c98, ⟨x_c99, ⟨x_c100, ⟨x_c101, ⟨x_c102, ⟨x_c103, ⟨x_c104, ⟨x_c105, ⟨x_c106, ⟨x_c107, ⟨x_c108, ⟨x_c109, ⟨x_c110, ⟨x_c111, ⟨x_c112, ⟨x_c113, ⟨x_c114, ⟨x_c115, ⟨x_c116, ⟨x_c117, ⟨x_c118, ⟨x_c119, ⟨x_c120, ⟨x_c121, ⟨x_c122, ⟨x_c123, ⟨x_c124, ⟨x_c125, ⟨x_c126, ⟨x_c127, ⟨x_c128, ⟨x_c129, ⟨x_c130, ⟨x_c131, ⟨x_c132, ⟨x_c133, ⟨x_c134, ⟨x_c135, ⟨x_c136, ⟨x_c137, ⟨x_c138, ⟨x_c139, ⟨x_c140, ⟨x_c141, ⟨x_c142, ⟨x_c143, ⟨x_c144, ⟨x_c145, ⟨x_c146, ⟨x_c147, ⟨x_c148, ⟨x_c149, ⟨x_c150, ⟨x_c151, ⟨x_c152, ⟨x_c153, ⟨x_c154, ⟨x_c155, ⟨x_c156, ⟨x_c157, ⟨x_c158, ⟨x_c159, ⟨x_c160, ⟨x_c161, ⟨x_c162, ⟨x_c163, ⟨x_c164, ⟨x_c165, ⟨x_c166, ⟨x_c167, ⟨x_c168, ⟨x_c169, ⟨x_c170, ⟨x_c171, ⟨x_c172, ⟨x_c173, ⟨x_c174, ⟨x_c175, ⟨x_c176, ⟨x_c177, ⟨x_c178, ⟨x_c179, ⟨x_c180, ⟨x_c181, ⟨x_c182, ⟨x_c183, ⟨x_c184, ⟨x_c185, ⟨x_c186, ⟨x_c187, ⟨x_c188, ⟨x_c189, ⟨x_c190, ⟨x_c191, ⟨x_c192, ⟨x_c193, ⟨x_c194, ⟨x_c195, ⟨x_c196, ⟨x_c197, ⟨x_c198, ⟨x_c199, ⟨x_c200, trivial⟩⟩⟩⟩⟩⟩⟩⟩⟩⟩⟩⟩⟩⟩⟩⟩⟩⟩⟩⟩⟩⟩⟩⟩⟩⟩⟩⟩⟩⟩⟩⟩⟩⟩⟩⟩⟩⟩⟩⟩⟩⟩⟩⟩⟩⟩⟩⟩⟩⟩⟩⟩⟩⟩⟩⟩⟩⟩⟩⟩⟩⟩⟩⟩⟩⟩⟩⟩⟩⟩⟩⟩⟩⟩⟩⟩⟩⟩⟩⟩⟩⟩⟩⟩⟩⟩⟩⟩⟩⟩⟩⟩⟩⟩⟩⟩⟩⟩⟩⟩⟩⟩⟩⟩⟩⟩⟩⟩⟩⟩⟩⟩⟩⟩⟩⟩⟩⟩⟩⟩⟩⟩⟩⟩⟩⟩⟩⟩⟩⟩⟩⟩⟩⟩⟩⟩⟩⟩⟩⟩⟩⟩⟩⟩⟩⟩⟩⟩⟩⟩⟩⟩⟩⟩⟩⟩⟩⟩⟩⟩⟩⟩⟩⟩⟩⟩⟩⟩⟩⟩⟩⟩⟩⟩⟩⟩⟩⟩⟩⟩⟩⟩⟩⟩⟩⟩⟩⟩⟩⟩⟩⟩⟩⟩⟩⟩⟩⟩⟩⟩⟩
theorem x_site {j pc : Nat} {e : x_E} (h : INS j pc = some e) : ∃ (i : Instr) (ix : Nat), decode (MB j) pc = .ok (i, e.2.1) ∧ x_ck j pc e i ix = true := by
  obtain ⟨i, ix, hm⟩ := x_find_mem _ _ _ h
  have h1 := x_allck_get x_progs 0 j x_allck_all
  rw [Nat.zero_add] at h1
  have h2 := List.all_eq_true.mp h1 _ hm
  simp only [x_ckP, Bool.and_eq_true, decide_eq_true_eq] at h2
  exact ⟨i, ix, h2.1, h2.2⟩
