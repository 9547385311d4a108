theorem wfP_e0 {p q : Prop} (h : wfP (p ∧ q)) : p ∧ wfP q := h
theorem wfP_e1 {α : Type} {A B : α → Prop} (h : wfP (∃ x, A x ∧ B x)) : ∃ x, A x ∧ wfP (B x) := h
theorem wfP_e2 {α β : Type} {A B : α → β → Prop} (h : wfP (∃ x, ∃ y, A x y ∧ B x y)) : ∃ x y, A x y ∧ wfP (B x y) := h

def im_karrive (i0 : Nat) (p1 : Int32) (q2 : Nat) : List (Nat × Nat × Nat) := [(0, 0, 0), (1, 0, 0), (2, 0, 0), (32, 0, 0), (33, 0, 0), (34, 0, 0), (35, 0, 0), (36, 0, 0), (37, 0, 0), (38, 0, 0), (39, 0, 0), (40, 0, 0), (41, 0, 0), (42, 0, 0), (43, 0, 0), (44, 0, 0), (45, 0, 0), (46, 0, 0), (47, 0, 0), (48, 0, 0), (49, 0, 0), (67, 0, 0), (108, 0, 0), (109, q2, 1), (111, 0, 0), (135, 0, 0), (136, 0, 0), (164, 0, 0), (165, 0, 0), (166, 0, 0), (167, 0, 0), (168, 0, 0), (169, 0, 0), (170, 0, 0), (171, 0, 0), (172, 0, 0), (173, 0, 0), (174, 0, 0), (175, 0, 0), (176, 0, 0), (177, 0, 0), (178, 0, 0), (179, 0, 0), (180, 0, 0), (197, 0, 0), (198, 0, 0), (225, q2, 1), (226, q2, 1), (227, q2, 1), (228, q2, 1), (229, q2, 1), (230, q2, 1), (231, q2, 1), (232, q2, 1), (233, q2, 1), (234, q2, 1), (235, q2, 1), (288, 0, 1), (289, 0, 1), (290, 0, 1), (291, 0, 1), (292, 0, 1), (293, 0, 1), (294, 0, 1), (295, 0, 1), (296, 0, 1), (323, 0, 0), (384, 0, 0), (385, 0, 0), (386, 0, 0), (421, 0, 0), (422, 0, 0), (512, 0, 0), (544, 0, 0), (576, 0, 0), (768, 0, 0), (800, q2, 8192), (832, 0, 0), (864, 0, 0), (928, 0, 0), (960, 0, 0), (992, 0, 0), (1024, 0, 0), (1056, 0, 0), (1088, 0, 8192), (1248, 0, 0), (1280, 0, 0), (1344, 0, 0), (1536, 0, 0), (1728, 0, 0), (1729, 0, 0)]
def po_karrive (Z : cZ) (i0 : Nat) (p1 : Int32) (q2 : Nat) (g : mSt) (r : Int32) (Z1 : cZ) (g1 : mSt) : Prop := mFi (im_karrive i0 p1 q2) g g1 ∧ mFr [0, 1, 2, 32, 33, 34, 35, 36, 37, 38, 39, 40, 41, 42, 43, 44, 45, 46, 47, 48, 49, 67, 108, 109, 111, 135, 136, 164, 165, 166, 167, 168, 169, 170, 171, 172, 173, 174, 175, 176, 177, 178, 179, 180, 197, 198, 225, 226, 227, 228, 229, 230, 231, 232, 233, 234, 235, 288, 289, 290, 291, 292, 293, 294, 295, 296, 323, 384, 385, 386, 421, 422, 512, 544, 576, 768, 800, 832, 864, 928, 960, 992, 1024, 1056, 1088, 1248, 1280, 1344, 1536, 1728, 1729] g g1 ∧ cJ Z1 g1 ∧ True
def wp_karrive (TC TS : Nat) (Z0 : cZ) (i0 : Nat) (p1 : Int32) (q2 : Nat) (g : mSt) (Φ : Int32 → cZ → mSt → Prop) : Prop :=
  ∀ Z : cZ, Z = Z0 → ∀ (v1 : Int32), v1 = p1 - p1 / (2 : Int32) * (2 : Int32) → rg (0) (1) v1 → v1.toInt = p1.toInt % 2 → ((v1.toInt ≠ 0) → ∀ (v7 : Int32), v7 = p1 / (2 : Int32) → rg (0) (3) v7 → v7.toInt = p1.toInt / 2 → ((v7.toInt.toNat < Z.n) → ∃ P14 : Int32 → Int32 → cZ → mSt → Prop, (∀ (a37_4_12 a37_5_13 : Int32) (Z : cZ) (g14 : mSt), mFr [0, 1, 2, 32, 33, 34, 35, 36, 37, 38, 39, 40, 41, 42, 43, 44, 45, 46, 47, 48, 49, 67, 108, 109, 111, 135, 136, 164, 165, 166, 167, 168, 169, 170, 171, 172, 173, 174, 175, 176, 177, 178, 179, 180, 197, 198, 225, 226, 227, 228, 229, 230, 231, 232, 233, 234, 235, 288, 289, 290, 291, 292, 293, 294, 295, 296, 323, 384, 385, 386, 421, 422, 512, 544, 576, 768, 800, 832, 864, 928, 960, 992, 1024, 1056, 1088, 1248, 1280, 1344, 1536, 1728, 1729] g g14 → mFi (im_karrive i0 p1 q2) g g14 → cJ Z g14 → Z.n = Z0.n → rg (-2147483648) (2147483647) a37_4_12 → rg (0) (212) a37_5_13 → P14 a37_4_12 a37_5_13 Z g14 → ((212 ≤ a37_5_13.toInt) → Φ 0 Z g14) ∧ ((a37_5_13.toInt < 212) → ∀ (v21 : Int32), v21 = g14 101 q2 → rg (0) (212) v21 → ((v21.toInt ≤ a37_4_12.toInt) → Φ 0 Z g14) ∧ ((a37_4_12.toInt < v21.toInt) → wp_ktake Z q2 q2 a37_4_12 v21 g14 (fun (v29 : Int32) (g28 : mSt) => po_ktake Z q2 q2 a37_4_12 v21 g14 v29 g28 → ∀ (v30 : Int32), v30 = a37_4_12 + v29 → rg (-2147483648) (2147483647) v30 → ∀ (v31 : Int32), v31 = g28 235 q2 → rg (0) (1) v31 → ((v31.toInt = 0) → ∀ (v35 : Int32), v35 = a37_5_13 + (1 : Int32) → rg (1) (212) v35 → v35.toInt = a37_5_13.toInt + 1 → P14 v30 v35 Z g28) ∧ ((v31.toInt ≠ 0) → (Z.w 2 + 0 ≤ 1000000 ∧ Z.w 0 + 2 ≤ TC ∧ Z.w 1 + (243) ≤ TS) ∧ wp_kcellCame Z i0 p1 q2 g28 (fun (v39 : Int32) (Z_38 : cZ) (g38 : mSt) => po_kcellCame Z i0 p1 q2 g28 v39 Z_38 g38 → ∀ Z : cZ, Z = Z_38 → ((v39.toInt ≠ 0) → ∀ (v47 : Int32), v47 = g38 2 q2 → rg (-2147483648) (2147483647) v47 → ∀ (v48 : Int32), v48 = g38 362 i0 → rg (-2147483648) (2147483647) v48 → wp_kunitCame Z v7.toInt.toNat q2 v47 v48 g38 (fun (v50 : Int32) (g49 : mSt) => po_kunitCame Z v7.toInt.toNat q2 v47 v48 g38 v50 g49 → ((v50.toInt ≠ 1) → ((v50.toInt ≠ 2) → wp_ktakeNext Z v7.toInt.toNat 0 g49 (fun (v58 : Int32) (g57 : mSt) => po_ktakeNext Z v7.toInt.toNat 0 g49 v58 g57 → ∃ P62 : Int32 → Int32 → cZ → mSt → Prop, (∀ (a178_7_60 a178_8_61 : Int32) (Z : cZ) (g62 : mSt), mFr [32, 33, 34, 35, 36, 37, 38, 39, 40, 41, 42, 43, 44, 45, 46, 47, 48, 49, 135, 170, 171, 198, 288, 289, 290, 291, 292, 293, 294, 295, 296, 323, 384, 385, 386, 832, 864, 1088, 1280, 1344, 1536, 1728, 1729] g57 g62 → mFi (im_karrive i0 p1 q2) g57 g62 → cJ Z g62 → Z.n = Z0.n → rg (0) (60) a178_7_60 → rg (0) (8) a178_8_61 → P62 a178_7_60 a178_8_61 Z g62 → ((8 ≤ a178_8_61.toInt) → ∀ (v68 : Int32), v68 = a37_5_13 + (1 : Int32) → rg (1) (212) v68 → v68.toInt = a37_5_13.toInt + 1 → P14 v30 v68 Z g62) ∧ ((a178_8_61.toInt < 8) → ((a178_7_60.toInt ≤ 0) → ∀ (v72 : Int32), v72 = a37_5_13 + (1 : Int32) → rg (1) (212) v72 → v72.toInt = a37_5_13.toInt + 1 → P14 v30 v72 Z g62) ∧ ((0 < a178_7_60.toInt) → ∀ (v76 : Int32), v76 = p1 - p1 / (2 : Int32) * (2 : Int32) → rg (0) (1) v76 → v76.toInt = p1.toInt % 2 → ((v76.toInt ≠ 1) → wp_ksread Z 0 0 a178_7_60 (0 : Int32) g62 (fun (v82 : Int32) (g81 : mSt) => po_ksread Z 0 0 a178_7_60 (0 : Int32) g62 v82 g81 → ((v82.toInt = 0) → wp_ktakeNext Z v7.toInt.toNat 0 g81 (fun (v89 : Int32) (g88 : mSt) => po_ktakeNext Z v7.toInt.toNat 0 g81 v89 g88 → ∀ (v91 : Int32), v91 = a178_8_61 + (1 : Int32) → rg (1) (8) v91 → v91.toInt = a178_8_61.toInt + 1 → P62 v89 v91 Z g88)) ∧ ((v82.toInt ≠ 0) → ∀ (v94 : Int32), v94 = g81 362 i0 → rg (-2147483648) (2147483647) v94 → ∃ n95_0 : Nat, (Z.w 2 + 1 ≤ 1000000 ∧ Z.w 0 + 2 ≤ TC ∧ Z.w 1 + (18 + n95_0) ≤ TS) ∧ wp_kcame_4 n95_0 Z v7.toInt.toNat 0 v94 g81 (fun (_ : Int32) (Z_95 : cZ) (g95 : mSt) => po_kcame_4 Z v7.toInt.toNat 0 v94 g81 0 Z_95 g95 → ∀ Z : cZ, Z = Z_95 → wp_ktakeNext Z v7.toInt.toNat 0 g95 (fun (v99 : Int32) (g98 : mSt) => po_ktakeNext Z v7.toInt.toNat 0 g95 v99 g98 → ∀ (v101 : Int32), v101 = a178_8_61 + (1 : Int32) → rg (1) (8) v101 → v101.toInt = a178_8_61.toInt + 1 → P62 v99 v101 Z g98))))) ∧ ((v76.toInt = 1) → wp_ksread Z 0 0 a178_7_60 (1 : Int32) g62 (fun (v105 : Int32) (g104 : mSt) => po_ksread Z 0 0 a178_7_60 (1 : Int32) g62 v105 g104 → ((v105.toInt = 0) → wp_ktakeNext Z v7.toInt.toNat 0 g104 (fun (v112 : Int32) (g111 : mSt) => po_ktakeNext Z v7.toInt.toNat 0 g104 v112 g111 → ∀ (v114 : Int32), v114 = a178_8_61 + (1 : Int32) → rg (1) (8) v114 → v114.toInt = a178_8_61.toInt + 1 → P62 v112 v114 Z g111)) ∧ ((v105.toInt ≠ 0) → ∀ (v117 : Int32), v117 = g104 362 i0 → rg (-2147483648) (2147483647) v117 → ∃ n118_0 : Nat, (Z.w 2 + 1 ≤ 1000000 ∧ Z.w 0 + 2 ≤ TC ∧ Z.w 1 + (18 + n118_0) ≤ TS) ∧ wp_kcame_4 n118_0 Z v7.toInt.toNat 0 v117 g104 (fun (_ : Int32) (Z_118 : cZ) (g118 : mSt) => po_kcame_4 Z v7.toInt.toNat 0 v117 g104 0 Z_118 g118 → ∀ Z : cZ, Z = Z_118 → wp_ktakeNext Z v7.toInt.toNat 0 g118 (fun (v122 : Int32) (g121 : mSt) => po_ktakeNext Z v7.toInt.toNat 0 g118 v122 g121 → ∀ (v124 : Int32), v124 = a178_8_61 + (1 : Int32) → rg (1) (8) v124 → v124.toInt = a178_8_61.toInt + 1 → P62 v122 v124 Z g121)))))))) ∧ P62 v58 (0 : Int32) Z g57)) ∧ ((v50.toInt = 2) → wp_kask Z v7.toInt.toNat (3 : Int32) (9 : Int32) v48 g49 (fun (_ : Int32) (g129 : mSt) => po_kask Z v7.toInt.toNat (3 : Int32) (9 : Int32) v48 g49 0 g129 → wp_ktakeNext Z v7.toInt.toNat 0 g129 (fun (v132 : Int32) (g131 : mSt) => po_ktakeNext Z v7.toInt.toNat 0 g129 v132 g131 → ∃ P136 : Int32 → Int32 → cZ → mSt → Prop, (∀ (a178_7_134 a178_8_135 : Int32) (Z : cZ) (g136 : mSt), mFr [32, 33, 34, 35, 36, 37, 38, 39, 40, 41, 42, 43, 44, 45, 46, 47, 48, 49, 135, 170, 171, 198, 288, 289, 290, 291, 292, 293, 294, 295, 296, 323, 384, 385, 386, 832, 864, 1088, 1280, 1344, 1536, 1728, 1729] g131 g136 → mFi (im_karrive i0 p1 q2) g131 g136 → cJ Z g136 → Z.n = Z0.n → rg (0) (60) a178_7_134 → rg (0) (8) a178_8_135 → P136 a178_7_134 a178_8_135 Z g136 → ((8 ≤ a178_8_135.toInt) → ∀ (v142 : Int32), v142 = a37_5_13 + (1 : Int32) → rg (1) (212) v142 → v142.toInt = a37_5_13.toInt + 1 → P14 v30 v142 Z g136) ∧ ((a178_8_135.toInt < 8) → ((a178_7_134.toInt ≤ 0) → ∀ (v146 : Int32), v146 = a37_5_13 + (1 : Int32) → rg (1) (212) v146 → v146.toInt = a37_5_13.toInt + 1 → P14 v30 v146 Z g136) ∧ ((0 < a178_7_134.toInt) → ∀ (v150 : Int32), v150 = p1 - p1 / (2 : Int32) * (2 : Int32) → rg (0) (1) v150 → v150.toInt = p1.toInt % 2 → ((v150.toInt ≠ 1) → wp_ksread Z 0 0 a178_7_134 (0 : Int32) g136 (fun (v156 : Int32) (g155 : mSt) => po_ksread Z 0 0 a178_7_134 (0 : Int32) g136 v156 g155 → ((v156.toInt = 0) → wp_ktakeNext Z v7.toInt.toNat 0 g155 (fun (v163 : Int32) (g162 : mSt) => po_ktakeNext Z v7.toInt.toNat 0 g155 v163 g162 → ∀ (v165 : Int32), v165 = a178_8_135 + (1 : Int32) → rg (1) (8) v165 → v165.toInt = a178_8_135.toInt + 1 → P136 v163 v165 Z g162)) ∧ ((v156.toInt ≠ 0) → ∀ (v168 : Int32), v168 = g155 362 i0 → rg (-2147483648) (2147483647) v168 → ∃ n169_0 : Nat, (Z.w 2 + 1 ≤ 1000000 ∧ Z.w 0 + 2 ≤ TC ∧ Z.w 1 + (18 + n169_0) ≤ TS) ∧ wp_kcame_4 n169_0 Z v7.toInt.toNat 0 v168 g155 (fun (_ : Int32) (Z_169 : cZ) (g169 : mSt) => po_kcame_4 Z v7.toInt.toNat 0 v168 g155 0 Z_169 g169 → ∀ Z : cZ, Z = Z_169 → wp_ktakeNext Z v7.toInt.toNat 0 g169 (fun (v173 : Int32) (g172 : mSt) => po_ktakeNext Z v7.toInt.toNat 0 g169 v173 g172 → ∀ (v175 : Int32), v175 = a178_8_135 + (1 : Int32) → rg (1) (8) v175 → v175.toInt = a178_8_135.toInt + 1 → P136 v173 v175 Z g172))))) ∧ ((v150.toInt = 1) → wp_ksread Z 0 0 a178_7_134 (1 : Int32) g136 (fun (v179 : Int32) (g178 : mSt) => po_ksread Z 0 0 a178_7_134 (1 : Int32) g136 v179 g178 → ((v179.toInt = 0) → wp_ktakeNext Z v7.toInt.toNat 0 g178 (fun (v186 : Int32) (g185 : mSt) => po_ktakeNext Z v7.toInt.toNat 0 g178 v186 g185 → ∀ (v188 : Int32), v188 = a178_8_135 + (1 : Int32) → rg (1) (8) v188 → v188.toInt = a178_8_135.toInt + 1 → P136 v186 v188 Z g185)) ∧ ((v179.toInt ≠ 0) → ∀ (v191 : Int32), v191 = g178 362 i0 → rg (-2147483648) (2147483647) v191 → ∃ n192_0 : Nat, (Z.w 2 + 1 ≤ 1000000 ∧ Z.w 0 + 2 ≤ TC ∧ Z.w 1 + (18 + n192_0) ≤ TS) ∧ wp_kcame_4 n192_0 Z v7.toInt.toNat 0 v191 g178 (fun (_ : Int32) (Z_192 : cZ) (g192 : mSt) => po_kcame_4 Z v7.toInt.toNat 0 v191 g178 0 Z_192 g192 → ∀ Z : cZ, Z = Z_192 → wp_ktakeNext Z v7.toInt.toNat 0 g192 (fun (v196 : Int32) (g195 : mSt) => po_ktakeNext Z v7.toInt.toNat 0 g192 v196 g195 → ∀ (v198 : Int32), v198 = a178_8_135 + (1 : Int32) → rg (1) (8) v198 → v198.toInt = a178_8_135.toInt + 1 → P136 v196 v198 Z g195)))))))) ∧ P136 v132 (0 : Int32) Z g131)))) ∧ ((v50.toInt = 1) → wp_kallOver_4 Z v7.toInt.toNat v48 g49 (fun (_ : Int32) (g203 : mSt) => po_kallOver_4 Z v7.toInt.toNat v48 g49 0 g203 → wp_ktakeNext Z v7.toInt.toNat 0 g203 (fun (v206 : Int32) (g205 : mSt) => po_ktakeNext Z v7.toInt.toNat 0 g203 v206 g205 → ∃ P210 : Int32 → Int32 → cZ → mSt → Prop, (∀ (a178_7_208 a178_8_209 : Int32) (Z : cZ) (g210 : mSt), mFr [32, 33, 34, 35, 36, 37, 38, 39, 40, 41, 42, 43, 44, 45, 46, 47, 48, 49, 135, 170, 171, 198, 288, 289, 290, 291, 292, 293, 294, 295, 296, 323, 384, 385, 386, 832, 864, 1088, 1280, 1344, 1536, 1728, 1729] g205 g210 → mFi (im_karrive i0 p1 q2) g205 g210 → cJ Z g210 → Z.n = Z0.n → rg (0) (60) a178_7_208 → rg (0) (8) a178_8_209 → P210 a178_7_208 a178_8_209 Z g210 → ((8 ≤ a178_8_209.toInt) → ∀ (v216 : Int32), v216 = a37_5_13 + (1 : Int32) → rg (1) (212) v216 → v216.toInt = a37_5_13.toInt + 1 → P14 v30 v216 Z g210) ∧ ((a178_8_209.toInt < 8) → ((a178_7_208.toInt ≤ 0) → ∀ (v220 : Int32), v220 = a37_5_13 + (1 : Int32) → rg (1) (212) v220 → v220.toInt = a37_5_13.toInt + 1 → P14 v30 v220 Z g210) ∧ ((0 < a178_7_208.toInt) → ∀ (v224 : Int32), v224 = p1 - p1 / (2 : Int32) * (2 : Int32) → rg (0) (1) v224 → v224.toInt = p1.toInt % 2 → ((v224.toInt ≠ 1) → wp_ksread Z 0 0 a178_7_208 (0 : Int32) g210 (fun (v230 : Int32) (g229 : mSt) => po_ksread Z 0 0 a178_7_208 (0 : Int32) g210 v230 g229 → ((v230.toInt = 0) → wp_ktakeNext Z v7.toInt.toNat 0 g229 (fun (v237 : Int32) (g236 : mSt) => po_ktakeNext Z v7.toInt.toNat 0 g229 v237 g236 → ∀ (v239 : Int32), v239 = a178_8_209 + (1 : Int32) → rg (1) (8) v239 → v239.toInt = a178_8_209.toInt + 1 → P210 v237 v239 Z g236)) ∧ ((v230.toInt ≠ 0) → ∀ (v242 : Int32), v242 = g229 362 i0 → rg (-2147483648) (2147483647) v242 → ∃ n243_0 : Nat, (Z.w 2 + 1 ≤ 1000000 ∧ Z.w 0 + 2 ≤ TC ∧ Z.w 1 + (18 + n243_0) ≤ TS) ∧ wp_kcame_4 n243_0 Z v7.toInt.toNat 0 v242 g229 (fun (_ : Int32) (Z_243 : cZ) (g243 : mSt) => po_kcame_4 Z v7.toInt.toNat 0 v242 g229 0 Z_243 g243 → ∀ Z : cZ, Z = Z_243 → wp_ktakeNext Z v7.toInt.toNat 0 g243 (fun (v247 : Int32) (g246 : mSt) => po_ktakeNext Z v7.toInt.toNat 0 g243 v247 g246 → ∀ (v249 : Int32), v249 = a178_8_209 + (1 : Int32) → rg (1) (8) v249 → v249.toInt = a178_8_209.toInt + 1 → P210 v247 v249 Z g246))))) ∧ ((v224.toInt = 1) → wp_ksread Z 0 0 a178_7_208 (1 : Int32) g210 (fun (v253 : Int32) (g252 : mSt) => po_ksread Z 0 0 a178_7_208 (1 : Int32) g210 v253 g252 → ((v253.toInt = 0) → wp_ktakeNext Z v7.toInt.toNat 0 g252 (fun (v260 : Int32) (g259 : mSt) => po_ktakeNext Z v7.toInt.toNat 0 g252 v260 g259 → ∀ (v262 : Int32), v262 = a178_8_209 + (1 : Int32) → rg (1) (8) v262 → v262.toInt = a178_8_209.toInt + 1 → P210 v260 v262 Z g259)) ∧ ((v253.toInt ≠ 0) → ∀ (v265 : Int32), v265 = g252 362 i0 → rg (-2147483648) (2147483647) v265 → ∃ n266_0 : Nat, (Z.w 2 + 1 ≤ 1000000 ∧ Z.w 0 + 2 ≤ TC ∧ Z.w 1 + (18 + n266_0) ≤ TS) ∧ wp_kcame_4 n266_0 Z v7.toInt.toNat 0 v265 g252 (fun (_ : Int32) (Z_266 : cZ) (g266 : mSt) => po_kcame_4 Z v7.toInt.toNat 0 v265 g252 0 Z_266 g266 → ∀ Z : cZ, Z = Z_266 → wp_ktakeNext Z v7.toInt.toNat 0 g266 (fun (v270 : Int32) (g269 : mSt) => po_ktakeNext Z v7.toInt.toNat 0 g266 v270 g269 → ∀ (v272 : Int32), v272 = a178_8_209 + (1 : Int32) → rg (1) (8) v272 → v272.toInt = a178_8_209.toInt + 1 → P210 v270 v272 Z g269)))))))) ∧ P210 v206 (0 : Int32) Z g205))))) ∧ ((v39.toInt = 0) → ∀ (v276 : Int32), v276 = a37_5_13 + (1 : Int32) → rg (1) (212) v276 → v276.toInt = a37_5_13.toInt + 1 → P14 v30 v276 Z g38))))))) ∧ P14 (0 : Int32) (0 : Int32) Z g) ∧ ((Z.n ≤ v7.toInt.toNat) → True)) ∧ ((v1.toInt = 0) → ∀ (v282 : Int32), v282.toInt = (Z.n : Int) → rg (2) (4) v282 → ∀ (v283 : Int32), v283 = p1 / (2 : Int32) → rg (0) (3) v283 → v283.toInt = p1.toInt / 2 → ∀ (v285 : Int32), v285 = v282 + v283 → rg (2) (7) v285 → v285.toInt = v282.toInt + v283.toInt → ((v285.toInt.toNat < Z.n) → True) ∧ ((Z.n ≤ v285.toInt.toNat) → ∀ (sx289 : Nat), sx289 = (v285.toInt.toNat - Z.n) → ∃ P293 : Int32 → Int32 → cZ → mSt → Prop, (∀ (a37_4_291 a37_5_292 : Int32) (Z : cZ) (g293 : mSt), mFr [0, 1, 2, 32, 33, 34, 35, 36, 37, 38, 39, 40, 41, 42, 43, 44, 45, 46, 47, 48, 49, 67, 108, 109, 111, 135, 136, 164, 165, 166, 167, 168, 169, 170, 171, 172, 173, 174, 175, 176, 177, 178, 179, 180, 197, 198, 225, 226, 227, 228, 229, 230, 231, 232, 233, 234, 235, 288, 289, 290, 291, 292, 293, 294, 295, 296, 323, 384, 385, 386, 421, 422, 512, 544, 576, 768, 800, 832, 864, 928, 960, 992, 1024, 1056, 1088, 1248, 1280, 1344, 1536, 1728, 1729] g g293 → mFi (im_karrive i0 p1 q2) g g293 → cJ Z g293 → Z.n = Z0.n → rg (-2147483648) (2147483647) a37_4_291 → rg (0) (212) a37_5_292 → P293 a37_4_291 a37_5_292 Z g293 → ((212 ≤ a37_5_292.toInt) → Φ 0 Z g293) ∧ ((a37_5_292.toInt < 212) → ∀ (v300 : Int32), v300 = g293 101 q2 → rg (0) (212) v300 → ((v300.toInt ≤ a37_4_291.toInt) → Φ 0 Z g293) ∧ ((a37_4_291.toInt < v300.toInt) → wp_ktake Z q2 q2 a37_4_291 v300 g293 (fun (v308 : Int32) (g307 : mSt) => po_ktake Z q2 q2 a37_4_291 v300 g293 v308 g307 → ∀ (v309 : Int32), v309 = a37_4_291 + v308 → rg (-2147483648) (2147483647) v309 → ∀ (v310 : Int32), v310 = g307 235 q2 → rg (0) (1) v310 → ((v310.toInt = 0) → ∀ (v314 : Int32), v314 = a37_5_292 + (1 : Int32) → rg (1) (212) v314 → v314.toInt = a37_5_292.toInt + 1 → P293 v309 v314 Z g307) ∧ ((v310.toInt ≠ 0) → (Z.w 2 + 0 ≤ 1000000 ∧ Z.w 0 + 2 ≤ TC ∧ Z.w 1 + (243) ≤ TS) ∧ wp_kcellCame Z i0 p1 q2 g307 (fun (v318 : Int32) (Z_317 : cZ) (g317 : mSt) => po_kcellCame Z i0 p1 q2 g307 v318 Z_317 g317 → ∀ Z : cZ, Z = Z_317 → ((v318.toInt ≠ 0) → ∀ (v326 : Int32), v326 = g317 2 q2 → rg (-2147483648) (2147483647) v326 → ∀ (v327 : Int32), v327 = g317 362 i0 → rg (-2147483648) (2147483647) v327 → wp_kunitCame Z (Z.n + sx289) q2 v326 v327 g317 (fun (v329 : Int32) (g328 : mSt) => po_kunitCame Z (Z.n + sx289) q2 v326 v327 g317 v329 g328 → ((v329.toInt ≠ 1) → ((v329.toInt ≠ 2) → wp_ktakeNext Z (Z.n + sx289) 0 g328 (fun (v337 : Int32) (g336 : mSt) => po_ktakeNext Z (Z.n + sx289) 0 g328 v337 g336 → ∃ P341 : Int32 → Int32 → cZ → mSt → Prop, (∀ (a178_7_339 a178_8_340 : Int32) (Z : cZ) (g341 : mSt), mFr [32, 33, 34, 35, 36, 37, 38, 39, 40, 41, 42, 43, 44, 45, 46, 47, 48, 49, 135, 170, 171, 198, 288, 289, 290, 291, 292, 293, 294, 295, 296, 323, 384, 385, 386, 832, 864, 1088, 1280, 1344, 1536, 1728, 1729] g336 g341 → mFi (im_karrive i0 p1 q2) g336 g341 → cJ Z g341 → Z.n = Z0.n → rg (0) (60) a178_7_339 → rg (0) (8) a178_8_340 → P341 a178_7_339 a178_8_340 Z g341 → ((8 ≤ a178_8_340.toInt) → ∀ (v347 : Int32), v347 = a37_5_292 + (1 : Int32) → rg (1) (212) v347 → v347.toInt = a37_5_292.toInt + 1 → P293 v309 v347 Z g341) ∧ ((a178_8_340.toInt < 8) → ((a178_7_339.toInt ≤ 0) → ∀ (v351 : Int32), v351 = a37_5_292 + (1 : Int32) → rg (1) (212) v351 → v351.toInt = a37_5_292.toInt + 1 → P293 v309 v351 Z g341) ∧ ((0 < a178_7_339.toInt) → ∀ (v355 : Int32), v355 = p1 - p1 / (2 : Int32) * (2 : Int32) → rg (0) (1) v355 → v355.toInt = p1.toInt % 2 → ((v355.toInt ≠ 1) → wp_ksread Z 0 0 a178_7_339 (0 : Int32) g341 (fun (v361 : Int32) (g360 : mSt) => po_ksread Z 0 0 a178_7_339 (0 : Int32) g341 v361 g360 → ((v361.toInt = 0) → wp_ktakeNext Z (Z.n + sx289) 0 g360 (fun (v368 : Int32) (g367 : mSt) => po_ktakeNext Z (Z.n + sx289) 0 g360 v368 g367 → ∀ (v370 : Int32), v370 = a178_8_340 + (1 : Int32) → rg (1) (8) v370 → v370.toInt = a178_8_340.toInt + 1 → P341 v368 v370 Z g367)) ∧ ((v361.toInt ≠ 0) → ∀ (v373 : Int32), v373 = g360 362 i0 → rg (-2147483648) (2147483647) v373 → ∃ n374_0 : Nat, ∃ n374_1 : Nat, (Z.w 2 + 2 ≤ 1000000 ∧ Z.w 0 + 4 ≤ TC ∧ Z.w 1 + (36 + n374_0 + n374_1) ≤ TS) ∧ wp_kcame_10 n374_0 n374_1 Z sx289 0 v373 g360 (fun (_ : Int32) (Z_374 : cZ) (g374 : mSt) => po_kcame_10 Z sx289 0 v373 g360 0 Z_374 g374 → ∀ Z : cZ, Z = Z_374 → wp_ktakeNext Z (Z.n + sx289) 0 g374 (fun (v378 : Int32) (g377 : mSt) => po_ktakeNext Z (Z.n + sx289) 0 g374 v378 g377 → ∀ (v380 : Int32), v380 = a178_8_340 + (1 : Int32) → rg (1) (8) v380 → v380.toInt = a178_8_340.toInt + 1 → P341 v378 v380 Z g377))))) ∧ ((v355.toInt = 1) → wp_ksread Z 0 0 a178_7_339 (1 : Int32) g341 (fun (v384 : Int32) (g383 : mSt) => po_ksread Z 0 0 a178_7_339 (1 : Int32) g341 v384 g383 → ((v384.toInt = 0) → wp_ktakeNext Z (Z.n + sx289) 0 g383 (fun (v391 : Int32) (g390 : mSt) => po_ktakeNext Z (Z.n + sx289) 0 g383 v391 g390 → ∀ (v393 : Int32), v393 = a178_8_340 + (1 : Int32) → rg (1) (8) v393 → v393.toInt = a178_8_340.toInt + 1 → P341 v391 v393 Z g390)) ∧ ((v384.toInt ≠ 0) → ∀ (v396 : Int32), v396 = g383 362 i0 → rg (-2147483648) (2147483647) v396 → ∃ n397_0 : Nat, ∃ n397_1 : Nat, (Z.w 2 + 2 ≤ 1000000 ∧ Z.w 0 + 4 ≤ TC ∧ Z.w 1 + (36 + n397_0 + n397_1) ≤ TS) ∧ wp_kcame_10 n397_0 n397_1 Z sx289 0 v396 g383 (fun (_ : Int32) (Z_397 : cZ) (g397 : mSt) => po_kcame_10 Z sx289 0 v396 g383 0 Z_397 g397 → ∀ Z : cZ, Z = Z_397 → wp_ktakeNext Z (Z.n + sx289) 0 g397 (fun (v401 : Int32) (g400 : mSt) => po_ktakeNext Z (Z.n + sx289) 0 g397 v401 g400 → ∀ (v403 : Int32), v403 = a178_8_340 + (1 : Int32) → rg (1) (8) v403 → v403.toInt = a178_8_340.toInt + 1 → P341 v401 v403 Z g400)))))))) ∧ P341 v337 (0 : Int32) Z g336)) ∧ ((v329.toInt = 2) → wp_kask Z (Z.n + sx289) (3 : Int32) (9 : Int32) v327 g328 (fun (_ : Int32) (g408 : mSt) => po_kask Z (Z.n + sx289) (3 : Int32) (9 : Int32) v327 g328 0 g408 → wp_ktakeNext Z (Z.n + sx289) 0 g408 (fun (v411 : Int32) (g410 : mSt) => po_ktakeNext Z (Z.n + sx289) 0 g408 v411 g410 → ∃ P415 : Int32 → Int32 → cZ → mSt → Prop, (∀ (a178_7_413 a178_8_414 : Int32) (Z : cZ) (g415 : mSt), mFr [32, 33, 34, 35, 36, 37, 38, 39, 40, 41, 42, 43, 44, 45, 46, 47, 48, 49, 135, 170, 171, 198, 288, 289, 290, 291, 292, 293, 294, 295, 296, 323, 384, 385, 386, 832, 864, 1088, 1280, 1344, 1536, 1728, 1729] g410 g415 → mFi (im_karrive i0 p1 q2) g410 g415 → cJ Z g415 → Z.n = Z0.n → rg (0) (60) a178_7_413 → rg (0) (8) a178_8_414 → P415 a178_7_413 a178_8_414 Z g415 → ((8 ≤ a178_8_414.toInt) → ∀ (v421 : Int32), v421 = a37_5_292 + (1 : Int32) → rg (1) (212) v421 → v421.toInt = a37_5_292.toInt + 1 → P293 v309 v421 Z g415) ∧ ((a178_8_414.toInt < 8) → ((a178_7_413.toInt ≤ 0) → ∀ (v425 : Int32), v425 = a37_5_292 + (1 : Int32) → rg (1) (212) v425 → v425.toInt = a37_5_292.toInt + 1 → P293 v309 v425 Z g415) ∧ ((0 < a178_7_413.toInt) → ∀ (v429 : Int32), v429 = p1 - p1 / (2 : Int32) * (2 : Int32) → rg (0) (1) v429 → v429.toInt = p1.toInt % 2 → ((v429.toInt ≠ 1) → wp_ksread Z 0 0 a178_7_413 (0 : Int32) g415 (fun (v435 : Int32) (g434 : mSt) => po_ksread Z 0 0 a178_7_413 (0 : Int32) g415 v435 g434 → ((v435.toInt = 0) → wp_ktakeNext Z (Z.n + sx289) 0 g434 (fun (v442 : Int32) (g441 : mSt) => po_ktakeNext Z (Z.n + sx289) 0 g434 v442 g441 → ∀ (v444 : Int32), v444 = a178_8_414 + (1 : Int32) → rg (1) (8) v444 → v444.toInt = a178_8_414.toInt + 1 → P415 v442 v444 Z g441)) ∧ ((v435.toInt ≠ 0) → ∀ (v447 : Int32), v447 = g434 362 i0 → rg (-2147483648) (2147483647) v447 → ∃ n448_0 : Nat, ∃ n448_1 : Nat, (Z.w 2 + 2 ≤ 1000000 ∧ Z.w 0 + 4 ≤ TC ∧ Z.w 1 + (36 + n448_0 + n448_1) ≤ TS) ∧ wp_kcame_10 n448_0 n448_1 Z sx289 0 v447 g434 (fun (_ : Int32) (Z_448 : cZ) (g448 : mSt) => po_kcame_10 Z sx289 0 v447 g434 0 Z_448 g448 → ∀ Z : cZ, Z = Z_448 → wp_ktakeNext Z (Z.n + sx289) 0 g448 (fun (v452 : Int32) (g451 : mSt) => po_ktakeNext Z (Z.n + sx289) 0 g448 v452 g451 → ∀ (v454 : Int32), v454 = a178_8_414 + (1 : Int32) → rg (1) (8) v454 → v454.toInt = a178_8_414.toInt + 1 → P415 v452 v454 Z g451))))) ∧ ((v429.toInt = 1) → wp_ksread Z 0 0 a178_7_413 (1 : Int32) g415 (fun (v458 : Int32) (g457 : mSt) => po_ksread Z 0 0 a178_7_413 (1 : Int32) g415 v458 g457 → ((v458.toInt = 0) → wp_ktakeNext Z (Z.n + sx289) 0 g457 (fun (v465 : Int32) (g464 : mSt) => po_ktakeNext Z (Z.n + sx289) 0 g457 v465 g464 → ∀ (v467 : Int32), v467 = a178_8_414 + (1 : Int32) → rg (1) (8) v467 → v467.toInt = a178_8_414.toInt + 1 → P415 v465 v467 Z g464)) ∧ ((v458.toInt ≠ 0) → ∀ (v470 : Int32), v470 = g457 362 i0 → rg (-2147483648) (2147483647) v470 → ∃ n471_0 : Nat, ∃ n471_1 : Nat, (Z.w 2 + 2 ≤ 1000000 ∧ Z.w 0 + 4 ≤ TC ∧ Z.w 1 + (36 + n471_0 + n471_1) ≤ TS) ∧ wp_kcame_10 n471_0 n471_1 Z sx289 0 v470 g457 (fun (_ : Int32) (Z_471 : cZ) (g471 : mSt) => po_kcame_10 Z sx289 0 v470 g457 0 Z_471 g471 → ∀ Z : cZ, Z = Z_471 → wp_ktakeNext Z (Z.n + sx289) 0 g471 (fun (v475 : Int32) (g474 : mSt) => po_ktakeNext Z (Z.n + sx289) 0 g471 v475 g474 → ∀ (v477 : Int32), v477 = a178_8_414 + (1 : Int32) → rg (1) (8) v477 → v477.toInt = a178_8_414.toInt + 1 → P415 v475 v477 Z g474)))))))) ∧ P415 v411 (0 : Int32) Z g410)))) ∧ ((v329.toInt = 1) → wp_kallOver_10 Z sx289 v327 g328 (fun (_ : Int32) (g482 : mSt) => po_kallOver_10 Z sx289 v327 g328 0 g482 → wp_ktakeNext Z (Z.n + sx289) 0 g482 (fun (v485 : Int32) (g484 : mSt) => po_ktakeNext Z (Z.n + sx289) 0 g482 v485 g484 → ∃ P489 : Int32 → Int32 → cZ → mSt → Prop, (∀ (a178_7_487 a178_8_488 : Int32) (Z : cZ) (g489 : mSt), mFr [32, 33, 34, 35, 36, 37, 38, 39, 40, 41, 42, 43, 44, 45, 46, 47, 48, 49, 135, 170, 171, 198, 288, 289, 290, 291, 292, 293, 294, 295, 296, 323, 384, 385, 386, 832, 864, 1088, 1280, 1344, 1536, 1728, 1729] g484 g489 → mFi (im_karrive i0 p1 q2) g484 g489 → cJ Z g489 → Z.n = Z0.n → rg (0) (60) a178_7_487 → rg (0) (8) a178_8_488 → P489 a178_7_487 a178_8_488 Z g489 → ((8 ≤ a178_8_488.toInt) → ∀ (v495 : Int32), v495 = a37_5_292 + (1 : Int32) → rg (1) (212) v495 → v495.toInt = a37_5_292.toInt + 1 → P293 v309 v495 Z g489) ∧ ((a178_8_488.toInt < 8) → ((a178_7_487.toInt ≤ 0) → ∀ (v499 : Int32), v499 = a37_5_292 + (1 : Int32) → rg (1) (212) v499 → v499.toInt = a37_5_292.toInt + 1 → P293 v309 v499 Z g489) ∧ ((0 < a178_7_487.toInt) → ∀ (v503 : Int32), v503 = p1 - p1 / (2 : Int32) * (2 : Int32) → rg (0) (1) v503 → v503.toInt = p1.toInt % 2 → ((v503.toInt ≠ 1) → wp_ksread Z 0 0 a178_7_487 (0 : Int32) g489 (fun (v509 : Int32) (g508 : mSt) => po_ksread Z 0 0 a178_7_487 (0 : Int32) g489 v509 g508 → ((v509.toInt = 0) → wp_ktakeNext Z (Z.n + sx289) 0 g508 (fun (v516 : Int32) (g515 : mSt) => po_ktakeNext Z (Z.n + sx289) 0 g508 v516 g515 → ∀ (v518 : Int32), v518 = a178_8_488 + (1 : Int32) → rg (1) (8) v518 → v518.toInt = a178_8_488.toInt + 1 → P489 v516 v518 Z g515)) ∧ ((v509.toInt ≠ 0) → ∀ (v521 : Int32), v521 = g508 362 i0 → rg (-2147483648) (2147483647) v521 → ∃ n522_0 : Nat, ∃ n522_1 : Nat, (Z.w 2 + 2 ≤ 1000000 ∧ Z.w 0 + 4 ≤ TC ∧ Z.w 1 + (36 + n522_0 + n522_1) ≤ TS) ∧ wp_kcame_10 n522_0 n522_1 Z sx289 0 v521 g508 (fun (_ : Int32) (Z_522 : cZ) (g522 : mSt) => po_kcame_10 Z sx289 0 v521 g508 0 Z_522 g522 → ∀ Z : cZ, Z = Z_522 → wp_ktakeNext Z (Z.n + sx289) 0 g522 (fun (v526 : Int32) (g525 : mSt) => po_ktakeNext Z (Z.n + sx289) 0 g522 v526 g525 → ∀ (v528 : Int32), v528 = a178_8_488 + (1 : Int32) → rg (1) (8) v528 → v528.toInt = a178_8_488.toInt + 1 → P489 v526 v528 Z g525))))) ∧ ((v503.toInt = 1) → wp_ksread Z 0 0 a178_7_487 (1 : Int32) g489 (fun (v532 : Int32) (g531 : mSt) => po_ksread Z 0 0 a178_7_487 (1 : Int32) g489 v532 g531 → ((v532.toInt = 0) → wp_ktakeNext Z (Z.n + sx289) 0 g531 (fun (v539 : Int32) (g538 : mSt) => po_ktakeNext Z (Z.n + sx289) 0 g531 v539 g538 → ∀ (v541 : Int32), v541 = a178_8_488 + (1 : Int32) → rg (1) (8) v541 → v541.toInt = a178_8_488.toInt + 1 → P489 v539 v541 Z g538)) ∧ ((v532.toInt ≠ 0) → ∀ (v544 : Int32), v544 = g531 362 i0 → rg (-2147483648) (2147483647) v544 → ∃ n545_0 : Nat, ∃ n545_1 : Nat, (Z.w 2 + 2 ≤ 1000000 ∧ Z.w 0 + 4 ≤ TC ∧ Z.w 1 + (36 + n545_0 + n545_1) ≤ TS) ∧ wp_kcame_10 n545_0 n545_1 Z sx289 0 v544 g531 (fun (_ : Int32) (Z_545 : cZ) (g545 : mSt) => po_kcame_10 Z sx289 0 v544 g531 0 Z_545 g545 → ∀ Z : cZ, Z = Z_545 → wp_ktakeNext Z (Z.n + sx289) 0 g545 (fun (v549 : Int32) (g548 : mSt) => po_ktakeNext Z (Z.n + sx289) 0 g545 v549 g548 → ∀ (v551 : Int32), v551 = a178_8_488 + (1 : Int32) → rg (1) (8) v551 → v551.toInt = a178_8_488.toInt + 1 → P489 v549 v551 Z g548)))))))) ∧ P489 v485 (0 : Int32) Z g484))))) ∧ ((v318.toInt = 0) → ∀ (v555 : Int32), v555 = a37_5_292 + (1 : Int32) → rg (1) (212) v555 → v555.toInt = a37_5_292.toInt + 1 → P293 v309 v555 Z g317))))))) ∧ P293 (0 : Int32) (0 : Int32) Z g))
def rm_karrive (a b : Nat) : Room := { frames := 11, cells := a, slots := b, locals := 253 }
theorem hd_karrive : yX11_arrive.cls = cRn 11 ∧ yX11_arrive.cls ≠ "java/lang/invoke/MethodHandle" ∧ yX11_arrive.cls ≠ "java/lang/invoke/VarHandle" ∧ (parseMethodDescriptor yX11_arrive.desc).map (fun d => d.parameters.length) = some 2 := by decide +kernel
set_option maxHeartbeats 8000000 in
set_option maxRecDepth 100000 in
theorem v_karrive {p : Program} {l : Launch} {e : Env} {s : State} {m : MethodId} {args : Array Value} {below : List Frame} {meth : Method} {c : Code} {H : Heap} {locs : List Loc} {Q : State → Prop} {ls : Array Slot} {G : cG} {Z0 : cZ} {A : Nat → Prop} {g : mSt} {H0 : Heap} {X : Int} {a b TC TS : Nat} (xa : cXA p c cX11_arrive s args (wk (Cond.code yX11_arrive cX11_arrive 9 none)) m G Z0 A RX11 H0) (hml : c.maxLocals = 9) (L : cL G Z0 A H0 X g H locs) (hTC : Z0.w 0 + a = TC) (hTS : Z0.w 1 + b = TS) (hX : 0 ≤ X ∧ (X + 2120) ≤ 2000000000) (i0 : Nat) (p1 : Int32) (q2 : Nat) (hJ : cJ Z0 g) (hal0 : Z0.al 11 i0) (rp1 : rg (0) (7) p1) (hq2 : Z0.al 3 q2) (hd : p1.toInt < 2 * (Z0.n : Int) ∧ q2 < 2 * Z0.n) {Φ : Int32 → cZ → mSt → Prop} (hW : wfP (wp_karrive TC TS Z0 i0 p1 q2 g Φ)) (hl : lv_has ls 9 [(0, .ref (Z0.ad 11 i0)), (1, .int p1), (2, .ref (Z0.ad 3 q2))]) (hQ : ∀ (pc' : Nat) (ls' : Array Slot) (Z1 : cZ) (g1 : mSt) (H1 : Heap) (locs1 : List Loc) (c1 l1 : Nat), decode cX11_arrive pc' = .ok (.return_, 1) → cXA p c cX11_arrive s args (wk (Cond.code yX11_arrive cX11_arrive 9 none)) m G Z1 A RX11 H0 → cL G Z1 A H0 (X + 2120) g1 H1 locs1 → cZl Z0 Z1 c1 l1 → (c1 ≤ a ∧ l1 ≤ b) → (wfP (Φ 0 Z1 g1) ∧ mFi (im_karrive i0 p1 q2) g g1 ∧ (mFr [0, 1, 2, 32, 33, 34, 35, 36, 37, 38, 39, 40, 41, 42, 43, 44, 45, 46, 47, 48, 49, 67, 108, 109, 111, 135, 136, 164, 165, 166, 167, 168, 169, 170, 171, 172, 173, 174, 175, 176, 177, 178, 179, 180, 197, 198, 225, 226, 227, 228, 229, 230, 231, 232, 233, 234, 235, 288, 289, 290, 291, 292, 293, 294, 295, 296, 323, 384, 385, 386, 421, 422, 512, 544, 576, 768, 800, 832, 864, 928, 960, 992, 1024, 1056, 1088, 1248, 1280, 1344, 1536, 1728, 1729] g g1 ∧ cJ Z1 g1 ∧ True)) → W p l e (rm_karrive a b) s m args below meth c H1 locs1 c1 l1 Q (F0 m pc' ls' [])) : W p l e (rm_karrive a b) s m args below meth c H locs 0 0 Q (F0 m 0 ls []) := by
  obtain ⟨Z, eZ⟩ : ∃ Z : cZ, Z = Z0 := ⟨_, rfl⟩
  replace hW := wfP_i (wfP_a hW Z) eZ
  have hzl : cZl Z0 Z 0 0 := by rw [eZ]; exact cZl.rf
  rw [← eZ] at xa L hJ hl
  have hcs : 0 ≤ a ∧ 0 ≤ b := ⟨Nat.zero_le _, Nat.zero_le _⟩
  have x := xa.1
  have hx := x.1
  have hb := x.2.1
  have hz := x.2.2.2.2.2.2.2.1
  have hzn := hz.1
  have hZn0 := hzl.1
  have ha_0 := hzl.2.1 11 i0 hal0
  have ha_2 := hzl.2.1 3 q2 hq2
  have up1 : (0 : Int) ≤ p1.toInt ∧ p1.toInt ≤ 7 := rp1
  refine lv_iload_n hx hb dX11_arrive_0 rfl (lv_at hl 1 rfl) ?_
  refine lv_iconst (v := 2) hx hb dX11_arrive_1 (by decide) ?_
  refine lv_irem hx hb dX11_arrive_2 (by decide) ?_
  refine lv_topi (fun v1 ev1 => ?_)
  have rv1 : rg (0) (1) v1 := (rg_rem ev1 rp1 kc_2 rfl).1
  replace hW := (wfP_i (wfP_i (wfP_i (wfP_a hW v1) ev1) rv1) ((rg_rem ev1 rp1 kc_2 rfl).2))
  have tv1 := (rg_rem ev1 rp1 kc_2 rfl).2
  have y2 : (2 : Int32).toInt = 2 := by decide
  have uv1 : (0 : Int) ≤ v1.toInt ∧ v1.toInt ≤ 1 := rv1
  refine lv_if_ne (tgt := 22) hx hb dX11_arrive_3 (by decide) (fun c3_3 => ?_) (fun c3_3 => ?_)
  · skip
    replace hW := wfP_i (wfP_l hW) (i_ne c3_3 rfl (rg_i kc_0))
    have ic3_3 : v1.toInt ≠ (0 : Int32).toInt := fun z => c3_3 (Int32.toInt_inj.mp z)
    have y4 : (0 : Int32).toInt = 0 := by decide
    have q5 : rg (1) (1) v1 := rg_neL c3_3 rv1 kc_0
    have uq5 : (1 : Int) ≤ v1.toInt ∧ v1.toInt ≤ 1 := q5
    refine lv_aload_n hx hb dX11_arrive_22 rfl (lv_at hl 0 rfl) ?_
    have al6 : Z.al 52 0 := hz.2 52 0 (show 0 < 1 from (by omega))
    refine c_getr (a := Z.ad 52 0) x L 11 i0 4 ha_0 rfl rfl (wk_in kf_X11_71) dX11_arrive_23 ?_
    refine lv_iload_n hx hb dX11_arrive_26 rfl (lv_at hl 1 rfl) ?_
    refine lv_iconst (v := 2) hx hb dX11_arrive_27 (by decide) ?_
    refine lv_idiv hx hb dX11_arrive_28 (by decide) ?_
    refine lv_topi (fun v7 ev7 => ?_)
    have rv7 : rg (0) (3) v7 := (rg_div ev7 rp1 kc_2 rfl).1
    replace hW := (wfP_i (wfP_i (wfP_i (wfP_a hW v7) ev7) rv7) ((rg_div ev7 rp1 kc_2 rfl).2))
    have tv7 := (rg_div ev7 rp1 kc_2 rfl).2
    have y8 : (2 : Int32).toInt = 2 := by decide
    have uv7 : (0 : Int) ≤ v7.toInt ∧ v7.toInt ≤ 3 := rv7
    rcases Nat.lt_or_ge v7.toInt.toNat Z.n with hc9 | hc9
    · skip
      replace hW := wfP_i (wfP_l hW) hc9
      have al10 : Z.al 4 v7.toInt.toNat := hz.2 4 v7.toInt.toNat (show v7.toInt.toNat < Z.n from (by omega))
      refine c_ldr (a := Z.ad 4 v7.toInt.toNat) x L 52 0 al6 rfl (by omega) (show v7.toInt < (((2 * Z.n) : Nat) : Int) from (by omega)) (by show some (cSd Z v7.toInt.toNat) = _; unfold cSd; rw [if_pos hc9]) dX11_arrive_29 ?_
      refine lv_astore_n (lv' := [(3, .ref (Z.ad 4 v7.toInt.toNat)), (0, .ref (Z.ad 11 i0)), (1, .int p1), (2, .ref (Z.ad 3 q2))]) hx hb dX11_arrive_30 rfl hl (by decide) rfl (fun ls hl => ?_)
      refine lv_iconst (v := 0) hx hb dX11_arrive_31 (by decide) ?_
      refine lv_istore (lv' := [(4, .int (0 : Int32)), (3, .ref (Z.ad 4 v7.toInt.toNat)), (0, .ref (Z.ad 11 i0)), (1, .int p1), (2, .ref (Z.ad 3 q2))]) hx hb dX11_arrive_32 hl (by decide) rfl (fun ls hl => ?_)
      refine lv_iconst (v := 0) hx hb dX11_arrive_34 (by decide) ?_
      refine lv_istore (lv' := [(5, .int (0 : Int32)), (4, .int (0 : Int32)), (3, .ref (Z.ad 4 v7.toInt.toNat)), (0, .ref (Z.ad 11 i0)), (1, .int p1), (2, .ref (Z.ad 3 q2))]) hx hb dX11_arrive_35 hl (by decide) rfl (fun ls hl => ?_)
      obtain ⟨P14, hP14, hW⟩ := wfP_ex hW
      have j37_14 : ∀ (n : Nat) (a37_4_12 a37_5_13 : Int32) (Z : cZ) (g14 : mSt) (H14 : Heap) (k14 : List Loc) (ls : Array Slot) (c14 l14 : Nat), mFr [0, 1, 2, 32, 33, 34, 35, 36, 37, 38, 39, 40, 41, 42, 43, 44, 45, 46, 47, 48, 49, 67, 108, 109, 111, 135, 136, 164, 165, 166, 167, 168, 169, 170, 171, 172, 173, 174, 175, 176, 177, 178, 179, 180, 197, 198, 225, 226, 227, 228, 229, 230, 231, 232, 233, 234, 235, 288, 289, 290, 291, 292, 293, 294, 295, 296, 323, 384, 385, 386, 421, 422, 512, 544, 576, 768, 800, 832, 864, 928, 960, 992, 1024, 1056, 1088, 1248, 1280, 1344, 1536, 1728, 1729] g g14 → mFi (im_karrive i0 p1 q2) g g14 → cXA p c cX11_arrive s args (wk (Cond.code yX11_arrive cX11_arrive 9 none)) m G Z A RX11 H0 → cL G Z A H0 (X + (10 * a37_5_13.toInt)) g14 H14 k14 → cZl Z0 Z c14 l14 → (c14 ≤ a ∧ l14 ≤ b) → cJ Z g14 → rg (-2147483648) (2147483647) a37_4_12 → rg (0) (212) a37_5_13 → wfP (P14 a37_4_12 a37_5_13 Z g14) → lv_has ls 9 [(0, .ref (Z.ad 11 i0)), (1, .int p1), (2, .ref (Z.ad 3 q2)), (3, .ref (Z.ad 4 v7.toInt.toNat)), (4, .int a37_4_12), (5, .int a37_5_13)] → ((212 : Int) - a37_5_13.toInt).toNat = n → W p l e (rm_karrive a b) s m args below meth c H14 k14 c14 l14 Q (F0 m 37 ls []) := by
        intro n
        induction n using Nat.strongRecOn with
        | _ n ih14 =>
          intro a37_4_12 a37_5_13 Z g14 H14 k14 ls c14 l14 hF14 hI14 xa L14 hzl hcs hJ14 ra37_4_12 ra37_5_13 hW hl hn14
          subst hn14
          have x := xa.1
          have hz := x.2.2.2.2.2.2.2.1
          have hzn := hz.1
          have hZn14 := hzl.1
          replace hW := wfP_i (wfP_i (wfP_i (wfP_i (wfP_i (wfP_i (wfP_i (wfP_a (wfP_a (wfP_a (wfP_a hP14 a37_4_12) a37_5_13) Z) g14) hF14) hI14) hJ14) hzl.1) ra37_4_12) ra37_5_13) hW
          have ua37_4_12 : (-2147483648 : Int) ≤ a37_4_12.toInt ∧ a37_4_12.toInt ≤ 2147483647 := ra37_4_12
          have ua37_5_13 : (0 : Int) ≤ a37_5_13.toInt ∧ a37_5_13.toInt ≤ 212 := ra37_5_13
          have al15 := hzl.2.1 11 i0 hal0
          have al16 := hzl.2.1 3 q2 hq2
          have al17 : Z.al 4 v7.toInt.toNat := hz.2 4 v7.toInt.toNat (show v7.toInt.toNat < Z.n from (by omega))
          refine lv_iload hx hb dX11_arrive_37 (lv_at hl 5 rfl) ?_
          refine lv_sipush (v := 212) hx hb dX11_arrive_39 (by decide) ?_
          refine lv_icmp_ge (tgt := 255) hx hb dX11_arrive_42 (by decide) (fun c42_18 => ?_) (fun c42_18 => ?_)
          · skip
            replace hW := wfP_i (wfP_l hW) (i_le c42_18 (rg_i kc_212) rfl)
            have ic42_18 := Int32.le_iff_toInt_le.mp c42_18
            have q19 : rg (212) (212) a37_5_13 := (rg_le c42_18 kc_212 ra37_5_13).2
            have uq19 : (212 : Int) ≤ a37_5_13.toInt ∧ a37_5_13.toInt ≤ 212 := q19
            exact hQ _ _ Z _ _ _ _ _ dX11_arrive_255 xa (cL.mono L14 (by omega)) hzl hcs ⟨hW, (mFi.tr mFi.rf hI14), (mFr.tr mFr.rf hF14 rfl), hJ14, trivial⟩
          · skip
            replace hW := wfP_i (wfP_r hW) (i_lt (rg_nle c42_18) rfl (rg_i kc_212))
            have ic42_18 := Int32.lt_iff_toInt_lt.mp (rg_nle c42_18)
            have q20 : rg (0) (211) a37_5_13 := (rg_lt (rg_nle c42_18) ra37_5_13 kc_212).1
            have uq20 : (0 : Int) ≤ a37_5_13.toInt ∧ a37_5_13.toInt ≤ 211 := q20
            refine lv_iload hx hb dX11_arrive_45 (lv_at hl 4 rfl) ?_
            refine lv_aload_n hx hb dX11_arrive_47 rfl (lv_at hl 2 rfl) ?_
            refine c_geti x L14 3 q2 5 101 al16 rfl rfl (wk_in kf_X11_116) dX11_arrive_48 (fun v21 ev21 wv21 => ?_)
            have rv21 : rg (0) (212) v21 := clj_101 wv21
            replace hW := (wfP_i (wfP_i (wfP_a hW v21) ev21) rv21)
            have uv21 : (0 : Int) ≤ v21.toInt ∧ v21.toInt ≤ 212 := rv21
            have sv21 : v21.toInt = (g 101 q2).toInt := congrArg Int32.toInt (ev21.trans (congrFun ((show mFr [0, 1, 2, 32, 33, 34, 35, 36, 37, 38, 39, 40, 41, 42, 43, 44, 45, 46, 47, 48, 49, 67, 108, 109, 111, 135, 136, 164, 165, 166, 167, 168, 169, 170, 171, 172, 173, 174, 175, 176, 177, 178, 179, 180, 197, 198, 225, 226, 227, 228, 229, 230, 231, 232, 233, 234, 235, 288, 289, 290, 291, 292, 293, 294, 295, 296, 323, 384, 385, 386, 421, 422, 512, 544, 576, 768, 800, 832, 864, 928, 960, 992, 1024, 1056, 1088, 1248, 1280, 1344, 1536, 1728, 1729] g g14 from (mFr.tr mFr.rf hF14 rfl)).at 101 rfl) _))
            refine lv_icmp_ge (tgt := 255) hx hb dX11_arrive_51 (by decide) (fun c51_22 => ?_) (fun c51_22 => ?_)
            · skip
              replace hW := wfP_i (wfP_l hW) (i_le c51_22 rfl rfl)
              have ic51_22 := Int32.le_iff_toInt_le.mp c51_22
              have q23 : rg (0) (2147483647) a37_4_12 := (rg_le c51_22 rv21 ra37_4_12).2
              have uq23 : (0 : Int) ≤ a37_4_12.toInt ∧ a37_4_12.toInt ≤ 2147483647 := q23
              exact hQ _ _ Z _ _ _ _ _ dX11_arrive_255 xa (cL.mono L14 (by omega)) hzl hcs ⟨hW, (mFi.tr mFi.rf hI14), (mFr.tr mFr.rf hF14 rfl), hJ14, trivial⟩
            · skip
              replace hW := wfP_i (wfP_r hW) (i_lt (rg_nle c51_22) rfl rfl)
              have ic51_22 := Int32.lt_iff_toInt_lt.mp (rg_nle c51_22)
              have q24 : rg (-2147483648) (211) a37_4_12 := (rg_lt (rg_nle c51_22) ra37_4_12 rv21).1
              have uq24 : (-2147483648 : Int) ≤ a37_4_12.toInt ∧ a37_4_12.toInt ≤ 211 := q24
              refine lv_iload hx hb dX11_arrive_54 (lv_at hl 4 rfl) ?_
              refine lv_aload_n hx hb dX11_arrive_56 rfl (lv_at hl 2 rfl) ?_
              have al25 : Z.al 7 q2 := hz.2 7 q2 (show q2 < 2 * Z.n from (by omega))
              refine c_getr (a := Z.ad 7 q2) x L14 3 q2 2 al16 rfl rfl (wk_in kf_X11_119) dX11_arrive_57 ?_
              refine lv_aload_n hx hb dX11_arrive_60 rfl (lv_at hl 2 rfl) ?_
              have al26 : Z.al 19 q2 := hz.2 19 q2 (show q2 < 2 * Z.n from (by omega))
              refine c_getr (a := Z.ad 19 q2) x L14 3 q2 4 al16 rfl rfl (wk_in kf_X11_123) dX11_arrive_61 ?_
              refine lv_iload hx hb dX11_arrive_64 (lv_at hl 4 rfl) ?_
              refine lv_aload_n hx hb dX11_arrive_66 rfl (lv_at hl 2 rfl) ?_
              refine c_geti x L14 3 q2 5 101 al16 rfl rfl (wk_in kf_X11_116) dX11_arrive_67 (fun v27 ev27 wv27 => ?_)
              refine m_top ((ev21).trans ev27.symm) ?_
              refine c_ci (As := [.ref (Z.ad 19 q2), .int a37_4_12, .int v21]) (rest := [.int a37_4_12]) x hml L14 7 q2 al25 rfl (d_ktake l (X + (10 * a37_5_13.toInt)) g14 q2 q2 a37_4_12 v21 ⟨by omega, by omega⟩ hJ14 (show q2 < 2 * Z.n from (by omega)) al26 hW) (wk_V kd_X7_take kl_X11_126 ki_X7_take ks_X7_X7_take kn_X7) rfl ⟨rfl, rfl⟩ hd_ktake ⟨Nat.le_of_ble_eq_true rfl, Nat.le_of_ble_eq_true rfl⟩ rfl hl.1 rfl (lv_room (Nat.le_of_ble_eq_true rfl)) dX11_arrive_70 (fun v29 g28 H28 k28 hp28 L28 => ?_) hcs
              obtain ⟨hW, hi28, hp28⟩ := hp28
              replace hW := wfP_i hW ⟨hi28, hp28⟩
              have rv29 : rg (-210) (48) v29 := hp28.2.1
              have uv29 : (-210 : Int) ≤ v29.toInt ∧ v29.toInt ≤ 48 := rv29
              refine lv_iadd hx hb dX11_arrive_73 ?_
              refine lv_topi (fun v30 ev30 => ?_)
              have rv30 : rg (-2147483648) (2147483647) v30 := rg_any v30
              replace hW := (wfP_i (wfP_i (wfP_a hW v30) ev30) rv30)
              have uv30 : (-2147483648 : Int) ≤ v30.toInt ∧ v30.toInt ≤ 2147483647 := rv30
              refine lv_istore (lv' := [(4, .int v30), (0, .ref (Z.ad 11 i0)), (1, .int p1), (2, .ref (Z.ad 3 q2)), (3, .ref (Z.ad 4 v7.toInt.toNat)), (5, .int a37_5_13)]) hx hb dX11_arrive_74 hl (by decide) rfl (fun ls hl => ?_)
              refine lv_aload_n hx hb dX11_arrive_76 rfl (lv_at hl 3 rfl) ?_
              refine c_getr (a := Z.ad 7 q2) x L28 3 q2 2 al16 rfl rfl (wk_in kf_X11_119) dX11_arrive_77 ?_
              refine c_geti x L28 7 q2 11 235 al25 rfl rfl (wk_in kf_X11_132) dX11_arrive_80 (fun v31 ev31 wv31 => ?_)
              have rv31 : rg (0) (1) v31 := clj_235 wv31
              replace hW := (wfP_i (wfP_i (wfP_a hW v31) ev31) rv31)
              have uv31 : (0 : Int) ≤ v31.toInt ∧ v31.toInt ≤ 1 := rv31
              refine lv_if_eq (tgt := 249) hx hb dX11_arrive_83 (by decide) (fun c83_32 => ?_) (fun c83_32 => ?_)
              · skip
                replace hW := wfP_i (wfP_l hW) (i_eq c83_32 rfl (rg_i kc_0))
                have ic83_32 := congrArg Int32.toInt c83_32
                have y33 : (0 : Int32).toInt = 0 := by decide
                have q34 : rg (0) (0) v31 := (rg_eq c83_32 rv31 kc_0).1
                have uq34 : (0 : Int) ≤ v31.toInt ∧ v31.toInt ≤ 0 := q34
                obtain ⟨v35, ev35, fv35⟩ := inc_ex a37_5_13 (1) (1 : Int32) (by decide)
                have rv35 : rg (1) (212) v35 := (rg_add ev35 q20 kc_1 rfl).1
                have tv35 := (rg_add ev35 q20 kc_1 rfl).2
                have yv35 : (1 : Int32).toInt = 1 := by decide
                replace hW := (wfP_i (wfP_i (wfP_i (wfP_a hW v35) ev35) rv35) (w_iadd tv35 rfl (rg_i kc_1)))
                refine lv_iinc (v := v35) (lv' := [(5, .int v35), (4, .int v30), (0, .ref (Z.ad 11 i0)), (1, .int p1), (2, .ref (Z.ad 3 q2)), (3, .ref (Z.ad 4 v7.toInt.toNat))]) hx hb dX11_arrive_249 hl (k := 5) rfl fv35 (by decide) rfl (fun ls hl => ?_)
                refine lv_goto (tgt := 37) hx hb dX11_arrive_252 (by decide) ?_
                exact ih14 _ (ms_up tv35 kc_1 q20 rfl rfl) v30 v35 Z g28 _ _ ls _ _ (mFr.tr hF14 hp28.1 rfl) (mFi.sub hI14 hi28 (mSub_eq 46 rfl (mSub_eq 47 rfl (mSub_eq 48 rfl (mSub_eq 49 rfl (mSub_eq 50 rfl (mSub_eq 51 rfl (mSub_eq 52 rfl (mSub_eq 53 rfl (mSub_eq 54 rfl (mSub_eq 55 rfl (mSub_eq 56 rfl (mSub_eq 76 rfl mSub_nil))))))))))))) xa (cL.mono L28 (by omega)) hzl hcs hp28.2.2.1 (rg_w rv30 rfl) (rg_w rv35 rfl) hW (lv_sub hl [2, 3, 4, 5, 1, 0] rfl) rfl
              · skip
                replace hW := wfP_i (wfP_r hW) (i_ne c83_32 rfl (rg_i kc_0))
                have ic83_32 : v31.toInt ≠ (0 : Int32).toInt := fun z => c83_32 (Int32.toInt_inj.mp z)
                have y36 : (0 : Int32).toInt = 0 := by decide
                have q37 : rg (1) (1) v31 := rg_neL c83_32 rv31 kc_0
                have uq37 : (1 : Int) ≤ v31.toInt ∧ v31.toInt ≤ 1 := q37
                refine lv_aload_n hx hb dX11_arrive_86 rfl (lv_at hl 1 rfl) ?_
                refine lv_iload_n hx hb dX11_arrive_87 rfl (lv_at hl 2 rfl) ?_
                refine lv_aload_n hx hb dX11_arrive_88 rfl (lv_at hl 3 rfl) ?_
                obtain ⟨ho38, hW⟩ := wfP_e0 hW
                have hz038 := hzl.2.2.2.1
                have hz138 := hzl.2.2.2.2
                refine k_calli xa L28 (k_runV (As := [.int p1, .ref (Z.ad 3 q2)]) (rest := []) ⟨hx, hb, hml, x.2.2.2.2.1, x.2.2.1⟩ (d_kcellCame l (X + (10 * a37_5_13.toInt)) g28 i0 p1 q2 _ ⟨by omega, by omega⟩ hp28.2.2.1 (by omega) al15 (rg_w rp1 rfl) al16 (by omega) hW) (cwV 2 x.2.2.1 (wk_V kd_X11_cellCame kl_X11_136 ki_X11_cellCame ks_X11_X11_cellCame kn_X11) rfl rfl rfl hd_kcellCame ⟨Nat.le_of_ble_eq_true rfl, Nat.le_of_ble_eq_true rfl⟩) ⟨cPreA.blind, c_recv x L28 al15 rfl, fun U hU hW => k_pre xa L28 U hU hW⟩ rfl rfl hl.1 rfl (lv_room (Nat.le_of_ble_eq_true rfl)) dX11_arrive_89 ⟨show c14 + 2 ≤ a by omega, show l14 + (243) ≤ b by omega⟩) (fun v39 Z g38 H38 k38 kc38 kn38 hk38 hn38 hp38 hz38 xa L38 => ?_)
                obtain ⟨hW, hi38, hp38⟩ := hp38
                replace hW := wfP_i (wfP_a (wfP_i hW ⟨hi38, hp38⟩) Z) rfl
                have rv39 : rg (0) (1) v39 := hp38.2.1
                have uv39 : (0 : Int) ≤ v39.toInt ∧ v39.toInt ≤ 1 := rv39
                have hww38 := hp38.2.2.2.1
                have ea38_0 := hz38.2.2.1 11 i0 al15 (by omega)
                have ea38_1 := hz38.2.2.1 3 q2 al16 (by omega)
                have ea38_2 := hz38.2.2.1 4 v7.toInt.toNat al17 (by omega)
                rw [← ea38_0] at hl
                rw [← ea38_1] at hl
                rw [← ea38_2] at hl
                have al38_0 := hz38.2.1 11 i0 al15
                have al38_1 := hz38.2.1 3 q2 al16
                have al38_2 := hz38.2.1 4 v7.toInt.toNat al17
                have hZn38 := hz38.1
                have x := xa.1
                have hz := x.2.2.2.2.2.2.2.1
                have hzn := hz.1
                have hzl := cZl.tr hzl hz38
                have hcs : c14 + kc38 ≤ a ∧ l14 + kn38 ≤ b := by omega
                have L40 := cL.mono L38 (show _ ≤ (X + ((10 * a37_5_13.toInt) + 1)) by omega)
                refine lv_if_ne (tgt := 98) hx hb dX11_arrive_92 (by decide) (fun c92_41 => ?_) (fun c92_41 => ?_)
                · skip
                  replace hW := wfP_i (wfP_l hW) (i_ne c92_41 rfl (rg_i kc_0))
                  have ic92_41 : v39.toInt ≠ (0 : Int32).toInt := fun z => c92_41 (Int32.toInt_inj.mp z)
                  have y42 : (0 : Int32).toInt = 0 := by decide
                  have q43 : rg (1) (1) v39 := rg_neL c92_41 rv39 kc_0
                  have uq43 : (1 : Int) ≤ v39.toInt ∧ v39.toInt ≤ 1 := q43
                  refine lv_aload_n hx hb dX11_arrive_98 rfl (lv_at hl 4 rfl) ?_
                  have al44 : Z.al 5 v7.toInt.toNat := hz.2 5 v7.toInt.toNat (show v7.toInt.toNat < 2 * Z.n from (by omega))
                  refine c_getr (a := Z.ad 5 v7.toInt.toNat) x L40 4 v7.toInt.toNat 1 al38_2 rfl rfl (wk_in kf_X11_85) dX11_arrive_99 ?_
                  refine lv_aload_n hx hb dX11_arrive_102 rfl (lv_at hl 3 rfl) ?_
                  have al45 : Z.al 0 q2 := hz.2 0 q2 (show q2 < 2 * Z.n from (by omega))
                  refine c_getr (a := Z.ad 0 q2) x L40 3 q2 3 al38_1 rfl rfl (wk_in kf_X11_140) dX11_arrive_103 ?_
                  have al46 : Z.al 16 q2 := hz.2 16 q2 (show q2 < 2 * Z.n from (by omega))
                  refine c_getr (a := Z.ad 16 q2) x L40 0 q2 0 al45 rfl rfl (wk_in kf_X11_144) dX11_arrive_106 ?_
                  refine lv_aload_n hx hb dX11_arrive_109 rfl (lv_at hl 3 rfl) ?_
                  refine c_getr (a := Z.ad 0 q2) x L40 3 q2 3 al38_1 rfl rfl (wk_in kf_X11_140) dX11_arrive_110 ?_
                  refine c_geti x L40 0 q2 2 2 al45 rfl rfl (wk_in kf_X11_149) dX11_arrive_113 (fun v47 ev47 wv47 => ?_)
                  have rv47 : rg (-2147483648) (2147483647) v47 := rg_any v47
                  replace hW := (wfP_i (wfP_i (wfP_a hW v47) ev47) rv47)
                  have uv47 : (-2147483648 : Int) ≤ v47.toInt ∧ v47.toInt ≤ 2147483647 := rv47
                  refine lv_aload_n hx hb dX11_arrive_116 rfl (lv_at hl 1 rfl) ?_
                  refine c_geti x L40 11 i0 10 362 al38_0 rfl rfl (wk_in kf_X11_82) dX11_arrive_117 (fun v48 ev48 wv48 => ?_)
                  have rv48 : rg (-2147483648) (2147483647) v48 := rg_any v48
                  replace hW := (wfP_i (wfP_i (wfP_a hW v48) ev48) rv48)
                  have uv48 : (-2147483648 : Int) ≤ v48.toInt ∧ v48.toInt ≤ 2147483647 := rv48
                  have sv48 : v48.toInt = (g 362 i0).toInt := congrArg Int32.toInt (ev48.trans (congrFun ((show mFr [0, 1, 2, 32, 33, 34, 35, 36, 37, 38, 39, 40, 41, 42, 43, 44, 45, 46, 47, 48, 49, 67, 108, 109, 111, 135, 136, 164, 165, 166, 167, 168, 169, 170, 171, 172, 173, 174, 175, 176, 177, 178, 179, 180, 197, 198, 225, 226, 227, 228, 229, 230, 231, 232, 233, 234, 235, 288, 289, 290, 291, 292, 293, 294, 295, 296, 323, 384, 385, 386, 421, 422, 512, 544, 576, 768, 800, 832, 864, 928, 960, 992, 1024, 1056, 1088, 1248, 1280, 1344, 1536, 1728, 1729] g g38 from (mFr.tr (mFr.tr (mFr.tr mFr.rf hF14 rfl) hp28.1 rfl) hp38.1 rfl)).at 362 rfl) _))
                  refine c_ci (As := [.ref (Z.ad 16 q2), .int v47, .int v48]) (rest := []) x hml L40 5 v7.toInt.toNat al44 rfl (d_kunitCame l (X + ((10 * a37_5_13.toInt) + 1)) g38 v7.toInt.toNat q2 v47 v48 ⟨by omega, by omega⟩ (show v7.toInt.toNat < 2 * Z.n from (by omega)) al46 hW) (wk_V kd_X5_unitCame kl_X11_152 ki_X5_unitCame ks_X5_X5_unitCame kn_X5) rfl ⟨rfl, rfl⟩ hd_kunitCame ⟨Nat.le_of_ble_eq_true rfl, Nat.le_of_ble_eq_true rfl⟩ rfl hl.1 rfl (lv_room (Nat.le_of_ble_eq_true rfl)) dX11_arrive_120 (fun v50 g49 H49 k49 hp49 L49 => ?_) hcs
                  obtain ⟨hW, hi49, hp49⟩ := hp49
                  replace hW := wfP_i hW ⟨hi49, hp49⟩
                  have rv50 : rg (0) (2) v50 := hp49.2.1
                  have uv50 : (0 : Int) ≤ v50.toInt ∧ v50.toInt ≤ 2 := rv50
                  refine lv_istore (lv' := [(6, .int v50), (4, .int v30), (0, .ref (Z.ad 11 i0)), (1, .int p1), (2, .ref (Z.ad 3 q2)), (3, .ref (Z.ad 4 v7.toInt.toNat)), (5, .int a37_5_13)]) hx hb dX11_arrive_123 hl (by decide) rfl (fun ls hl => ?_)
                  refine lv_iload hx hb dX11_arrive_125 (lv_at hl 0 rfl) ?_
                  refine lv_iconst (v := 1) hx hb dX11_arrive_127 (by decide) ?_
                  refine lv_icmp_ne (tgt := 142) hx hb dX11_arrive_128 (by decide) (fun c128_51 => ?_) (fun c128_51 => ?_)
                  · skip
                    replace hW := wfP_i (wfP_l hW) (i_ne c128_51 rfl (rg_i kc_1))
                    have ic128_51 : v50.toInt ≠ (1 : Int32).toInt := fun z => c128_51 (Int32.toInt_inj.mp z)
                    have y52 : (1 : Int32).toInt = 1 := by decide
                    refine lv_iload hx hb dX11_arrive_142 (lv_at hl 0 rfl) ?_
                    refine lv_iconst (v := 2) hx hb dX11_arrive_144 (by decide) ?_
                    refine lv_icmp_ne (tgt := 162) hx hb dX11_arrive_145 (by decide) (fun c145_53 => ?_) (fun c145_53 => ?_)
                    · skip
                      replace hW := wfP_i (wfP_l hW) (i_ne c145_53 rfl (rg_i kc_2))
                      have ic145_53 : v50.toInt ≠ (2 : Int32).toInt := fun z => c145_53 (Int32.toInt_inj.mp z)
                      have y54 : (2 : Int32).toInt = 2 := by decide
                      have q55 : rg (0) (1) v50 := rg_neH c145_53 rv50 kc_2
                      have uq55 : (0 : Int) ≤ v50.toInt ∧ v50.toInt ≤ 1 := q55
                      refine lv_aload_n hx hb dX11_arrive_162 rfl (lv_at hl 5 rfl) ?_
                      refine c_getr (a := Z.ad 5 v7.toInt.toNat) x L49 4 v7.toInt.toNat 1 al38_2 rfl rfl (wk_in kf_X11_85) dX11_arrive_163 ?_
                      refine lv_aload_n hx hb dX11_arrive_166 rfl (lv_at hl 2 rfl) ?_
                      have al56 : Z.al 34 0 := hz.2 34 0 (show 0 < 1 from (by omega))
                      refine c_getr (a := Z.ad 34 0) x L49 11 i0 6 al38_0 rfl rfl (wk_in kf_X11_16) dX11_arrive_167 ?_
                      refine c_ci (As := [.ref (Z.ad 34 0)]) (rest := []) x hml L49 5 v7.toInt.toNat al44 rfl (d_ktakeNext l (X + ((10 * a37_5_13.toInt) + 1)) g49 v7.toInt.toNat 0 ⟨by omega, by omega⟩ (show v7.toInt.toNat < 2 * Z.n from (by omega)) al56 hW) (wk_V kd_X5_takeNext kl_X11_159 ki_X5_takeNext ks_X5_X5_takeNext kn_X5) rfl ⟨rfl, rfl⟩ hd_ktakeNext ⟨Nat.le_of_ble_eq_true rfl, Nat.le_of_ble_eq_true rfl⟩ rfl hl.1 rfl (lv_room (Nat.le_of_ble_eq_true rfl)) dX11_arrive_170 (fun v58 g57 H57 k57 hp57 L57 => ?_) hcs
                      obtain ⟨hW, hi57, hp57⟩ := hp57
                      replace hW := wfP_i hW ⟨hi57, hp57⟩
                      have rv58 : rg (0) (60) v58 := hp57.2.1
                      have uv58 : (0 : Int) ≤ v58.toInt ∧ v58.toInt ≤ 60 := rv58
                      have L59 := cL.mono L57 (show _ ≤ (X + (((10 * a37_5_13.toInt) + 1) + 1)) by omega)
                      refine lv_istore (lv' := [(7, .int v58), (6, .int v50), (4, .int v30), (0, .ref (Z.ad 11 i0)), (1, .int p1), (2, .ref (Z.ad 3 q2)), (3, .ref (Z.ad 4 v7.toInt.toNat)), (5, .int a37_5_13)]) hx hb dX11_arrive_173 hl (by decide) rfl (fun ls hl => ?_)
                      refine lv_iconst (v := 0) hx hb dX11_arrive_175 (by decide) ?_
                      refine lv_istore (lv' := [(8, .int (0 : Int32)), (7, .int v58), (6, .int v50), (4, .int v30), (0, .ref (Z.ad 11 i0)), (1, .int p1), (2, .ref (Z.ad 3 q2)), (3, .ref (Z.ad 4 v7.toInt.toNat)), (5, .int a37_5_13)]) hx hb dX11_arrive_176 hl (by decide) rfl (fun ls hl => ?_)
                      obtain ⟨P62, hP62, hW⟩ := wfP_ex hW
                      have j178_62 : ∀ (n : Nat) (a178_7_60 a178_8_61 : Int32) (Z : cZ) (g62 : mSt) (H62 : Heap) (k62 : List Loc) (ls : Array Slot) (c62 l62 : Nat), mFr [32, 33, 34, 35, 36, 37, 38, 39, 40, 41, 42, 43, 44, 45, 46, 47, 48, 49, 135, 170, 171, 198, 288, 289, 290, 291, 292, 293, 294, 295, 296, 323, 384, 385, 386, 832, 864, 1088, 1280, 1344, 1536, 1728, 1729] g57 g62 → mFi (im_karrive i0 p1 q2) g57 g62 → cXA p c cX11_arrive s args (wk (Cond.code yX11_arrive cX11_arrive 9 none)) m G Z A RX11 H0 → cL G Z A H0 (X + (10 * a37_5_13.toInt + 2 + a178_8_61.toInt)) g62 H62 k62 → cZl Z0 Z c62 l62 → (c62 ≤ a ∧ l62 ≤ b) → cJ Z g62 → rg (0) (60) a178_7_60 → rg (0) (8) a178_8_61 → wfP (P62 a178_7_60 a178_8_61 Z g62) → lv_has ls 9 [(0, .ref (Z.ad 11 i0)), (1, .int p1), (2, .ref (Z.ad 3 q2)), (3, .ref (Z.ad 4 v7.toInt.toNat)), (4, .int v30), (5, .int a37_5_13), (7, .int a178_7_60), (8, .int a178_8_61)] → ((8 : Int) - a178_8_61.toInt).toNat = n → W p l e (rm_karrive a b) s m args below meth c H62 k62 c62 l62 Q (F0 m 178 ls []) := by
                        intro n
                        induction n using Nat.strongRecOn with
                        | _ n ih62 =>
                          intro a178_7_60 a178_8_61 Z g62 H62 k62 ls c62 l62 hF62 hI62 xa L62 hzl hcs hJ62 ra178_7_60 ra178_8_61 hW hl hn62
                          subst hn62
                          have x := xa.1
                          have hz := x.2.2.2.2.2.2.2.1
                          have hzn := hz.1
                          have hZn62 := hzl.1
                          replace hW := wfP_i (wfP_i (wfP_i (wfP_i (wfP_i (wfP_i (wfP_i (wfP_a (wfP_a (wfP_a (wfP_a hP62 a178_7_60) a178_8_61) Z) g62) hF62) hI62) hJ62) hzl.1) ra178_7_60) ra178_8_61) hW
                          have ua178_7_60 : (0 : Int) ≤ a178_7_60.toInt ∧ a178_7_60.toInt ≤ 60 := ra178_7_60
                          have ua178_8_61 : (0 : Int) ≤ a178_8_61.toInt ∧ a178_8_61.toInt ≤ 8 := ra178_8_61
                          have al63 := hzl.2.1 11 i0 hal0
                          have al64 := hzl.2.1 3 q2 hq2
                          have al65 : Z.al 4 v7.toInt.toNat := hz.2 4 v7.toInt.toNat (show v7.toInt.toNat < Z.n from (by omega))
                          refine lv_iload hx hb dX11_arrive_178 (lv_at hl 7 rfl) ?_
                          refine lv_bipush (v := 8) hx hb dX11_arrive_180 (by decide) ?_
                          refine lv_icmp_ge (tgt := 249) hx hb dX11_arrive_182 (by decide) (fun c182_66 => ?_) (fun c182_66 => ?_)
                          · skip
                            replace hW := wfP_i (wfP_l hW) (i_le c182_66 (rg_i kc_8) rfl)
                            have ic182_66 := Int32.le_iff_toInt_le.mp c182_66
                            have q67 : rg (8) (8) a178_8_61 := (rg_le c182_66 kc_8 ra178_8_61).2
                            have uq67 : (8 : Int) ≤ a178_8_61.toInt ∧ a178_8_61.toInt ≤ 8 := q67
                            obtain ⟨v68, ev68, fv68⟩ := inc_ex a37_5_13 (1) (1 : Int32) (by decide)
                            have rv68 : rg (1) (212) v68 := (rg_add ev68 q20 kc_1 rfl).1
                            have tv68 := (rg_add ev68 q20 kc_1 rfl).2
                            have yv68 : (1 : Int32).toInt = 1 := by decide
                            replace hW := (wfP_i (wfP_i (wfP_i (wfP_a hW v68) ev68) rv68) (w_iadd tv68 rfl (rg_i kc_1)))
                            refine lv_iinc (v := v68) (lv' := [(5, .int v68), (0, .ref (Z.ad 11 i0)), (1, .int p1), (2, .ref (Z.ad 3 q2)), (3, .ref (Z.ad 4 v7.toInt.toNat)), (4, .int v30), (7, .int a178_7_60), (8, .int a178_8_61)]) hx hb dX11_arrive_249 hl (k := 5) rfl fv68 (by decide) rfl (fun ls hl => ?_)
                            refine lv_goto (tgt := 37) hx hb dX11_arrive_252 (by decide) ?_
                            exact ih14 _ (ms_up tv68 kc_1 q20 rfl rfl) v30 v68 Z g62 _ _ ls _ _ (mFr.tr (mFr.tr (mFr.tr (mFr.tr (mFr.tr hF14 hp28.1 rfl) hp38.1 rfl) hp49.1 rfl) hp57.1 rfl) hF62 rfl) (mFi.tr (mFi.sub (mFi.sub (mFi.sub (mFi.sub hI14 hi28 (mSub_eq 46 rfl (mSub_eq 47 rfl (mSub_eq 48 rfl (mSub_eq 49 rfl (mSub_eq 50 rfl (mSub_eq 51 rfl (mSub_eq 52 rfl (mSub_eq 53 rfl (mSub_eq 54 rfl (mSub_eq 55 rfl (mSub_eq 56 rfl (mSub_eq 76 rfl mSub_nil))))))))))))) hi38 (mSub_any 0 rfl (mSub_any 1 rfl (mSub_any 2 rfl (mSub_any 17 rfl (mSub_any 21 rfl (mSub_any 22 rfl (mSub_eq 23 rfl (mSub_any 26 rfl (mSub_any 72 rfl (mSub_any 73 rfl (mSub_any 74 rfl (mSub_any 80 rfl (mSub_any 81 rfl (mSub_any 82 rfl (mSub_any 83 rfl mSub_nil)))))))))))))))) hi49 (mSub_any 21 rfl (mSub_any 22 rfl (mSub_any 24 rfl (mSub_any 27 rfl (mSub_any 28 rfl (mSub_any 29 rfl (mSub_any 30 rfl (mSub_any 31 rfl (mSub_any 32 rfl (mSub_any 33 rfl (mSub_any 34 rfl (mSub_any 35 rfl (mSub_any 37 rfl (mSub_any 38 rfl (mSub_any 41 rfl (mSub_any 42 rfl (mSub_any 43 rfl (mSub_any 44 rfl (mSub_any 45 rfl (mSub_any 70 rfl (mSub_any 70 rfl (mSub_any 71 rfl (mSub_any 71 rfl (mSub_any 73 rfl (mSub_any 74 rfl (mSub_any 75 rfl (mSub_any 78 rfl (mSub_any 79 rfl (mSub_any 85 rfl (mSub_any 86 rfl (mSub_any 86 rfl (mSub_any 87 rfl (mSub_any 87 rfl mSub_nil)))))))))))))))))))))))))))))))))) hi57 (mSub_any 33 rfl (mSub_any 34 rfl (mSub_eq 84 rfl (mSub_any 86 rfl (mSub_any 87 rfl mSub_nil)))))) hI62) xa (cL.mono L62 (by omega)) hzl hcs hJ62 (rg_w rv30 rfl) (rg_w rv68 rfl) hW (lv_sub hl [1, 2, 3, 4, 5, 0] rfl) rfl
                          · skip
                            replace hW := wfP_i (wfP_r hW) (i_lt (rg_nle c182_66) rfl (rg_i kc_8))
                            have ic182_66 := Int32.lt_iff_toInt_lt.mp (rg_nle c182_66)
                            have q69 : rg (0) (7) a178_8_61 := (rg_lt (rg_nle c182_66) ra178_8_61 kc_8).1
                            have uq69 : (0 : Int) ≤ a178_8_61.toInt ∧ a178_8_61.toInt ≤ 7 := q69
                            refine lv_iload hx hb dX11_arrive_185 (lv_at hl 6 rfl) ?_
                            refine lv_if_le (tgt := 249) hx hb dX11_arrive_187 (by decide) (fun c187_70 => ?_) (fun c187_70 => ?_)
                            · skip
                              replace hW := wfP_i (wfP_l hW) (i_le c187_70 rfl (rg_i kc_0))
                              have ic187_70 := Int32.le_iff_toInt_le.mp c187_70
                              have q71 : rg (0) (0) a178_7_60 := (rg_le c187_70 ra178_7_60 kc_0).1
                              have uq71 : (0 : Int) ≤ a178_7_60.toInt ∧ a178_7_60.toInt ≤ 0 := q71
                              obtain ⟨v72, ev72, fv72⟩ := inc_ex a37_5_13 (1) (1 : Int32) (by decide)
                              have rv72 : rg (1) (212) v72 := (rg_add ev72 q20 kc_1 rfl).1
                              have tv72 := (rg_add ev72 q20 kc_1 rfl).2
                              have yv72 : (1 : Int32).toInt = 1 := by decide
                              replace hW := (wfP_i (wfP_i (wfP_i (wfP_a hW v72) ev72) rv72) (w_iadd tv72 rfl (rg_i kc_1)))
                              refine lv_iinc (v := v72) (lv' := [(5, .int v72), (0, .ref (Z.ad 11 i0)), (1, .int p1), (2, .ref (Z.ad 3 q2)), (3, .ref (Z.ad 4 v7.toInt.toNat)), (4, .int v30), (7, .int a178_7_60), (8, .int a178_8_61)]) hx hb dX11_arrive_249 hl (k := 5) rfl fv72 (by decide) rfl (fun ls hl => ?_)
                              refine lv_goto (tgt := 37) hx hb dX11_arrive_252 (by decide) ?_
                              exact ih14 _ (ms_up tv72 kc_1 q20 rfl rfl) v30 v72 Z g62 _ _ ls _ _ (mFr.tr (mFr.tr (mFr.tr (mFr.tr (mFr.tr hF14 hp28.1 rfl) hp38.1 rfl) hp49.1 rfl) hp57.1 rfl) hF62 rfl) (mFi.tr (mFi.sub (mFi.sub (mFi.sub (mFi.sub hI14 hi28 (mSub_eq 46 rfl (mSub_eq 47 rfl (mSub_eq 48 rfl (mSub_eq 49 rfl (mSub_eq 50 rfl (mSub_eq 51 rfl (mSub_eq 52 rfl (mSub_eq 53 rfl (mSub_eq 54 rfl (mSub_eq 55 rfl (mSub_eq 56 rfl (mSub_eq 76 rfl mSub_nil))))))))))))) hi38 (mSub_any 0 rfl (mSub_any 1 rfl (mSub_any 2 rfl (mSub_any 17 rfl (mSub_any 21 rfl (mSub_any 22 rfl (mSub_eq 23 rfl (mSub_any 26 rfl (mSub_any 72 rfl (mSub_any 73 rfl (mSub_any 74 rfl (mSub_any 80 rfl (mSub_any 81 rfl (mSub_any 82 rfl (mSub_any 83 rfl mSub_nil)))))))))))))))) hi49 (mSub_any 21 rfl (mSub_any 22 rfl (mSub_any 24 rfl (mSub_any 27 rfl (mSub_any 28 rfl (mSub_any 29 rfl (mSub_any 30 rfl (mSub_any 31 rfl (mSub_any 32 rfl (mSub_any 33 rfl (mSub_any 34 rfl (mSub_any 35 rfl (mSub_any 37 rfl (mSub_any 38 rfl (mSub_any 41 rfl (mSub_any 42 rfl (mSub_any 43 rfl (mSub_any 44 rfl (mSub_any 45 rfl (mSub_any 70 rfl (mSub_any 70 rfl (mSub_any 71 rfl (mSub_any 71 rfl (mSub_any 73 rfl (mSub_any 74 rfl (mSub_any 75 rfl (mSub_any 78 rfl (mSub_any 79 rfl (mSub_any 85 rfl (mSub_any 86 rfl (mSub_any 86 rfl (mSub_any 87 rfl (mSub_any 87 rfl mSub_nil)))))))))))))))))))))))))))))))))) hi57 (mSub_any 33 rfl (mSub_any 34 rfl (mSub_eq 84 rfl (mSub_any 86 rfl (mSub_any 87 rfl mSub_nil)))))) hI62) xa (cL.mono L62 (by omega)) hzl hcs hJ62 (rg_w rv30 rfl) (rg_w rv72 rfl) hW (lv_sub hl [1, 2, 3, 4, 5, 0] rfl) rfl
                            · skip
                              replace hW := wfP_i (wfP_r hW) (i_lt (rg_nle c187_70) (rg_i kc_0) rfl)
                              have ic187_70 := Int32.lt_iff_toInt_lt.mp (rg_nle c187_70)
                              have q73 : rg (1) (60) a178_7_60 := (rg_lt (rg_nle c187_70) kc_0 ra178_7_60).2
                              have uq73 : (1 : Int) ≤ a178_7_60.toInt ∧ a178_7_60.toInt ≤ 60 := q73
                              refine lv_aload_n hx hb dX11_arrive_190 rfl (lv_at hl 0 rfl) ?_
                              have al74 : Z.al 9 0 := hz.2 9 0 (show 0 < 1 from (by omega))
                              refine c_getr (a := Z.ad 9 0) x L62 11 i0 5 al63 rfl rfl (wk_in kf_X11_12) dX11_arrive_191 ?_
                              refine lv_aload_n hx hb dX11_arrive_194 rfl (lv_at hl 0 rfl) ?_
                              have al75 : Z.al 34 0 := hz.2 34 0 (show 0 < 1 from (by omega))
                              refine c_getr (a := Z.ad 34 0) x L62 11 i0 6 al63 rfl rfl (wk_in kf_X11_16) dX11_arrive_195 ?_
                              refine lv_iload hx hb dX11_arrive_198 (lv_at hl 6 rfl) ?_
                              refine lv_iload_n hx hb dX11_arrive_200 rfl (lv_at hl 1 rfl) ?_
                              refine lv_iconst (v := 2) hx hb dX11_arrive_201 (by decide) ?_
                              refine lv_irem hx hb dX11_arrive_202 (by decide) ?_
                              refine lv_topi (fun v76 ev76 => ?_)
                              have rv76 : rg (0) (1) v76 := (rg_rem ev76 rp1 kc_2 rfl).1
                              replace hW := (wfP_i (wfP_i (wfP_i (wfP_a hW v76) ev76) rv76) ((rg_rem ev76 rp1 kc_2 rfl).2))
                              have tv76 := (rg_rem ev76 rp1 kc_2 rfl).2
                              have y77 : (2 : Int32).toInt = 2 := by decide
                              have uv76 : (0 : Int) ≤ v76.toInt ∧ v76.toInt ≤ 1 := rv76
                              refine lv_iconst (v := 1) hx hb dX11_arrive_203 (by decide) ?_
                              refine lv_icmp_ne (tgt := 211) hx hb dX11_arrive_204 (by decide) (fun c204_78 => ?_) (fun c204_78 => ?_)
                              · skip
                                replace hW := wfP_i (wfP_l hW) (i_ne c204_78 rfl (rg_i kc_1))
                                have ic204_78 : v76.toInt ≠ (1 : Int32).toInt := fun z => c204_78 (Int32.toInt_inj.mp z)
                                have y79 : (1 : Int32).toInt = 1 := by decide
                                have q80 : rg (0) (0) v76 := rg_neH c204_78 rv76 kc_1
                                have uq80 : (0 : Int) ≤ v76.toInt ∧ v76.toInt ≤ 0 := q80
                                refine lv_iconst (v := 0) hx hb dX11_arrive_211 (by decide) ?_
                                refine c_ci (As := [.ref (Z.ad 34 0), .int a178_7_60, .int (0 : Int32)]) (rest := []) x hml L62 9 0 al74 rfl (d_ksread l (X + (10 * a37_5_13.toInt + 2 + a178_8_61.toInt)) g62 0 0 a178_7_60 (0 : Int32) ⟨by omega, by omega⟩ al74 al75 (rg_w q73 rfl) (rg_w kc_0 rfl) hW) (wk_V kd_X9_read kl_X11_163 ki_X9_read ks_X9_X9_read kn_X9) rfl ⟨rfl, rfl⟩ hd_ksread ⟨Nat.le_of_ble_eq_true rfl, Nat.le_of_ble_eq_true rfl⟩ rfl hl.1 rfl (lv_room (Nat.le_of_ble_eq_true rfl)) dX11_arrive_212 (fun v82 g81 H81 k81 hp81 L81 => ?_) hcs
                                obtain ⟨hW, hi81, hp81⟩ := hp81
                                replace hW := wfP_i hW ⟨hi81, hp81⟩
                                have rv82 : rg (0) (1) v82 := hp81.2.1
                                have uv82 : (0 : Int) ≤ v82.toInt ∧ v82.toInt ≤ 1 := rv82
                                have hw83 := hp81.2.2
                                refine lv_if_eq (tgt := 230) hx hb dX11_arrive_215 (by decide) (fun c215_84 => ?_) (fun c215_84 => ?_)
                                · skip
                                  replace hW := wfP_i (wfP_l hW) (i_eq c215_84 rfl (rg_i kc_0))
                                  have ic215_84 := congrArg Int32.toInt c215_84
                                  have y85 : (0 : Int32).toInt = 0 := by decide
                                  have q86 : rg (0) (0) v82 := (rg_eq c215_84 rv82 kc_0).1
                                  have uq86 : (0 : Int) ≤ v82.toInt ∧ v82.toInt ≤ 0 := q86
                                  refine lv_aload_n hx hb dX11_arrive_230 rfl (lv_at hl 3 rfl) ?_
                                  have al87 : Z.al 5 v7.toInt.toNat := hz.2 5 v7.toInt.toNat (show v7.toInt.toNat < 2 * Z.n from (by omega))
                                  refine c_getr (a := Z.ad 5 v7.toInt.toNat) x L81 4 v7.toInt.toNat 1 al65 rfl rfl (wk_in kf_X11_85) dX11_arrive_231 ?_
                                  refine lv_aload_n hx hb dX11_arrive_234 rfl (lv_at hl 0 rfl) ?_
                                  refine c_getr (a := Z.ad 34 0) x L81 11 i0 6 al63 rfl rfl (wk_in kf_X11_16) dX11_arrive_235 ?_
                                  refine c_ci (As := [.ref (Z.ad 34 0)]) (rest := []) x hml L81 5 v7.toInt.toNat al87 rfl (d_ktakeNext l (X + (10 * a37_5_13.toInt + 2 + a178_8_61.toInt)) g81 v7.toInt.toNat 0 ⟨by omega, by omega⟩ (show v7.toInt.toNat < 2 * Z.n from (by omega)) al75 hW) (wk_V kd_X5_takeNext kl_X11_159 ki_X5_takeNext ks_X5_X5_takeNext kn_X5) rfl ⟨rfl, rfl⟩ hd_ktakeNext ⟨Nat.le_of_ble_eq_true rfl, Nat.le_of_ble_eq_true rfl⟩ rfl hl.1 rfl (lv_room (Nat.le_of_ble_eq_true rfl)) dX11_arrive_238 (fun v89 g88 H88 k88 hp88 L88 => ?_) hcs
                                  obtain ⟨hW, hi88, hp88⟩ := hp88
                                  replace hW := wfP_i hW ⟨hi88, hp88⟩
                                  have rv89 : rg (0) (60) v89 := hp88.2.1
                                  have uv89 : (0 : Int) ≤ v89.toInt ∧ v89.toInt ≤ 60 := rv89
                                  have L90 := cL.mono L88 (show _ ≤ (X + ((10 * a37_5_13.toInt + 2 + a178_8_61.toInt) + 1)) by omega)
                                  refine lv_istore (lv' := [(7, .int v89), (0, .ref (Z.ad 11 i0)), (1, .int p1), (2, .ref (Z.ad 3 q2)), (3, .ref (Z.ad 4 v7.toInt.toNat)), (4, .int v30), (5, .int a37_5_13), (8, .int a178_8_61)]) hx hb dX11_arrive_241 hl (by decide) rfl (fun ls hl => ?_)
                                  obtain ⟨v91, ev91, fv91⟩ := inc_ex a178_8_61 (1) (1 : Int32) (by decide)
                                  have rv91 : rg (1) (8) v91 := (rg_add ev91 q69 kc_1 rfl).1
                                  have tv91 := (rg_add ev91 q69 kc_1 rfl).2
                                  have yv91 : (1 : Int32).toInt = 1 := by decide
                                  replace hW := (wfP_i (wfP_i (wfP_i (wfP_a hW v91) ev91) rv91) (w_iadd tv91 rfl (rg_i kc_1)))
                                  refine lv_iinc (v := v91) (lv' := [(8, .int v91), (7, .int v89), (0, .ref (Z.ad 11 i0)), (1, .int p1), (2, .ref (Z.ad 3 q2)), (3, .ref (Z.ad 4 v7.toInt.toNat)), (4, .int v30), (5, .int a37_5_13)]) hx hb dX11_arrive_243 hl (k := 7) rfl fv91 (by decide) rfl (fun ls hl => ?_)
                                  refine lv_goto (tgt := 178) hx hb dX11_arrive_246 (by decide) ?_
                                  exact ih62 _ (ms_up tv91 kc_1 q69 rfl rfl) v89 v91 Z g88 _ _ ls _ _ (mFr.tr (mFr.tr hF62 hp81.1 rfl) hp88.1 rfl) (mFi.sub (mFi.sub hI62 hi81 (mSub_eq 57 rfl (mSub_eq 58 rfl (mSub_eq 59 rfl (mSub_eq 60 rfl (mSub_eq 61 rfl (mSub_eq 62 rfl (mSub_eq 63 rfl (mSub_eq 64 rfl (mSub_eq 65 rfl mSub_nil)))))))))) hi88 (mSub_any 33 rfl (mSub_any 34 rfl (mSub_eq 84 rfl (mSub_any 86 rfl (mSub_any 87 rfl mSub_nil)))))) xa (cL.mono L90 (by omega)) hzl hcs (cJ_fr (cJ_fr hJ62 hp81.1 rfl) hp88.1 rfl) (rg_w rv89 rfl) (rg_w rv91 rfl) hW (lv_sub hl [2, 3, 4, 5, 6, 7, 1, 0] rfl) rfl
                                · skip
                                  replace hW := wfP_i (wfP_r hW) (i_ne c215_84 rfl (rg_i kc_0))
                                  have ic215_84 : v82.toInt ≠ (0 : Int32).toInt := fun z => c215_84 (Int32.toInt_inj.mp z)
                                  have y92 : (0 : Int32).toInt = 0 := by decide
                                  have q93 : rg (1) (1) v82 := rg_neL c215_84 rv82 kc_0
                                  have uq93 : (1 : Int) ≤ v82.toInt ∧ v82.toInt ≤ 1 := q93
                                  refine lv_aload_n hx hb dX11_arrive_218 rfl (lv_at hl 3 rfl) ?_
                                  refine lv_aload_n hx hb dX11_arrive_219 rfl (lv_at hl 0 rfl) ?_
                                  refine c_getr (a := Z.ad 9 0) x L81 11 i0 5 al63 rfl rfl (wk_in kf_X11_12) dX11_arrive_220 ?_
                                  refine lv_aload_n hx hb dX11_arrive_223 rfl (lv_at hl 0 rfl) ?_
                                  refine c_geti x L81 11 i0 10 362 al63 rfl rfl (wk_in kf_X11_82) dX11_arrive_224 (fun v94 ev94 wv94 => ?_)
                                  have rv94 : rg (-2147483648) (2147483647) v94 := rg_any v94
                                  replace hW := (wfP_i (wfP_i (wfP_a hW v94) ev94) rv94)
                                  have uv94 : (-2147483648 : Int) ≤ v94.toInt ∧ v94.toInt ≤ 2147483647 := rv94
                                  have sv94 : v94.toInt = (g 362 i0).toInt := congrArg Int32.toInt (ev94.trans (congrFun ((show mFr [0, 1, 2, 32, 33, 34, 35, 36, 37, 38, 39, 40, 41, 42, 43, 44, 45, 46, 47, 48, 49, 67, 108, 109, 111, 135, 136, 164, 165, 166, 167, 168, 169, 170, 171, 172, 173, 174, 175, 176, 177, 178, 179, 180, 197, 198, 225, 226, 227, 228, 229, 230, 231, 232, 233, 234, 235, 288, 289, 290, 291, 292, 293, 294, 295, 296, 323, 384, 385, 386, 421, 422, 512, 544, 576, 768, 800, 832, 864, 928, 960, 992, 1024, 1056, 1088, 1248, 1280, 1344, 1536, 1728, 1729] g g81 from (mFr.tr (mFr.tr (mFr.tr (mFr.tr (mFr.tr (mFr.tr (mFr.tr mFr.rf hF14 rfl) hp28.1 rfl) hp38.1 rfl) hp49.1 rfl) hp57.1 rfl) hF62 rfl) hp81.1 rfl)).at 362 rfl) _))
                                  obtain ⟨n95_0, ho95, hW⟩ := wfP_e1 hW
                                  have hz095 := hzl.2.2.2.1
                                  have hz195 := hzl.2.2.2.2
                                  refine k_callv xa L81 (k_runU (x := ⟨"CellSwitch$Side", "came", "(LCellSwitch$Signal;I)V"⟩) (As := [.ref (Z.ad 9 0), .int v94]) (rest := []) ⟨hx, hb, hml, x.2.2.2.2.1, x.2.2.1⟩ (d_kcame_4 l (X + (10 * a37_5_13.toInt + 2 + a178_8_61.toInt)) g81 v7.toInt.toNat 0 v94 _ n95_0 ⟨by omega, by omega⟩ (cJ_fr hJ62 hp81.1 rfl) (by omega) (show v7.toInt.toNat < Z.n from (by omega)) al74 (hw83 (by omega)) hW) (va_cwU 2 x.2.2.1 (wk_U (owner := "CellSwitch$Side") kd_X8_came kl_X11_167 km_CellSwitchSide_CellSwitchSide_came ks_X4_CellSwitchSide_X8_came ki_X8_came kn_X8) rfl rfl rfl rfl (by decide +kernel) ⟨Nat.le_of_ble_eq_true rfl, Nat.le_of_ble_eq_true rfl⟩) ⟨cPreA.blind, c_recv x L81 al65 rfl, fun U hU hW => k_pre xa L81 U hU hW⟩ rfl rfl hl.1 rfl (lv_room (Nat.le_of_ble_eq_true rfl)) dX11_arrive_227 ⟨show c62 + 2 ≤ a by omega, show l62 + (18 + n95_0) ≤ b by omega⟩) (fun  Z g95 H95 k95 kc95 kn95 hk95 hn95 hp95 hz95 xa L95 => ?_)
                                  obtain ⟨hW, hi95, hp95⟩ := hp95
                                  replace hW := wfP_i (wfP_a (wfP_i hW ⟨hi95, hp95⟩) Z) rfl
                                  have hww95 := hp95.2.2.1
                                  have ea95_0 := hz95.2.2.1 11 i0 al63 (by omega)
                                  have ea95_1 := hz95.2.2.1 3 q2 al64 (by omega)
                                  have ea95_2 := hz95.2.2.1 4 v7.toInt.toNat al65 (by omega)
                                  rw [← ea95_0] at hl
                                  rw [← ea95_1] at hl
                                  rw [← ea95_2] at hl
                                  have al95_0 := hz95.2.1 11 i0 al63
                                  have al95_1 := hz95.2.1 3 q2 al64
                                  have al95_2 := hz95.2.1 4 v7.toInt.toNat al65
                                  have hZn95 := hz95.1
                                  have x := xa.1
                                  have hz := x.2.2.2.2.2.2.2.1
                                  have hzn := hz.1
                                  have hzl := cZl.tr hzl hz95
                                  have hcs : c62 + kc95 ≤ a ∧ l62 + kn95 ≤ b := by omega
                                  refine lv_aload_n hx hb dX11_arrive_230 rfl (lv_at hl 3 rfl) ?_
                                  have al96 : Z.al 5 v7.toInt.toNat := hz.2 5 v7.toInt.toNat (show v7.toInt.toNat < 2 * Z.n from (by omega))
                                  refine c_getr (a := Z.ad 5 v7.toInt.toNat) x L95 4 v7.toInt.toNat 1 al95_2 rfl rfl (wk_in kf_X11_85) dX11_arrive_231 ?_
                                  refine lv_aload_n hx hb dX11_arrive_234 rfl (lv_at hl 0 rfl) ?_
                                  have al97 : Z.al 34 0 := hz.2 34 0 (show 0 < 1 from (by omega))
                                  refine c_getr (a := Z.ad 34 0) x L95 11 i0 6 al95_0 rfl rfl (wk_in kf_X11_16) dX11_arrive_235 ?_
                                  refine c_ci (As := [.ref (Z.ad 34 0)]) (rest := []) x hml L95 5 v7.toInt.toNat al96 rfl (d_ktakeNext l (X + (10 * a37_5_13.toInt + 2 + a178_8_61.toInt)) g95 v7.toInt.toNat 0 ⟨by omega, by omega⟩ (show v7.toInt.toNat < 2 * Z.n from (by omega)) al97 hW) (wk_V kd_X5_takeNext kl_X11_159 ki_X5_takeNext ks_X5_X5_takeNext kn_X5) rfl ⟨rfl, rfl⟩ hd_ktakeNext ⟨Nat.le_of_ble_eq_true rfl, Nat.le_of_ble_eq_true rfl⟩ rfl hl.1 rfl (lv_room (Nat.le_of_ble_eq_true rfl)) dX11_arrive_238 (fun v99 g98 H98 k98 hp98 L98 => ?_) hcs
                                  obtain ⟨hW, hi98, hp98⟩ := hp98
                                  replace hW := wfP_i hW ⟨hi98, hp98⟩
                                  have rv99 : rg (0) (60) v99 := hp98.2.1
                                  have uv99 : (0 : Int) ≤ v99.toInt ∧ v99.toInt ≤ 60 := rv99
                                  have L100 := cL.mono L98 (show _ ≤ (X + ((10 * a37_5_13.toInt + 2 + a178_8_61.toInt) + 1)) by omega)
                                  refine lv_istore (lv' := [(7, .int v99), (0, .ref (Z.ad 11 i0)), (1, .int p1), (2, .ref (Z.ad 3 q2)), (3, .ref (Z.ad 4 v7.toInt.toNat)), (4, .int v30), (5, .int a37_5_13), (8, .int a178_8_61)]) hx hb dX11_arrive_241 hl (by decide) rfl (fun ls hl => ?_)
                                  obtain ⟨v101, ev101, fv101⟩ := inc_ex a178_8_61 (1) (1 : Int32) (by decide)
                                  have rv101 : rg (1) (8) v101 := (rg_add ev101 q69 kc_1 rfl).1
                                  have tv101 := (rg_add ev101 q69 kc_1 rfl).2
                                  have yv101 : (1 : Int32).toInt = 1 := by decide
                                  replace hW := (wfP_i (wfP_i (wfP_i (wfP_a hW v101) ev101) rv101) (w_iadd tv101 rfl (rg_i kc_1)))
                                  refine lv_iinc (v := v101) (lv' := [(8, .int v101), (7, .int v99), (0, .ref (Z.ad 11 i0)), (1, .int p1), (2, .ref (Z.ad 3 q2)), (3, .ref (Z.ad 4 v7.toInt.toNat)), (4, .int v30), (5, .int a37_5_13)]) hx hb dX11_arrive_243 hl (k := 7) rfl fv101 (by decide) rfl (fun ls hl => ?_)
                                  refine lv_goto (tgt := 178) hx hb dX11_arrive_246 (by decide) ?_
                                  exact ih62 _ (ms_up tv101 kc_1 q69 rfl rfl) v99 v101 Z g98 _ _ ls _ _ (mFr.tr (mFr.tr (mFr.tr hF62 hp81.1 rfl) hp95.1 rfl) hp98.1 rfl) (mFi.sub (mFi.sub (mFi.sub hI62 hi81 (mSub_eq 57 rfl (mSub_eq 58 rfl (mSub_eq 59 rfl (mSub_eq 60 rfl (mSub_eq 61 rfl (mSub_eq 62 rfl (mSub_eq 63 rfl (mSub_eq 64 rfl (mSub_eq 65 rfl mSub_nil)))))))))) hi95 (mSub_any 3 rfl (mSub_any 4 rfl (mSub_any 5 rfl (mSub_any 6 rfl (mSub_any 7 rfl (mSub_any 8 rfl (mSub_any 9 rfl (mSub_any 10 rfl (mSub_any 11 rfl (mSub_any 12 rfl (mSub_any 13 rfl (mSub_any 14 rfl (mSub_any 15 rfl (mSub_any 16 rfl (mSub_any 17 rfl (mSub_any 18 rfl (mSub_any 19 rfl (mSub_any 20 rfl (mSub_any 25 rfl (mSub_any 45 rfl (mSub_any 67 rfl (mSub_any 68 rfl (mSub_any 69 rfl (mSub_any 77 rfl (mSub_any 78 rfl (mSub_any 88 rfl (mSub_any 89 rfl (mSub_any 90 rfl mSub_nil))))))))))))))))))))))))))))) hi98 (mSub_any 33 rfl (mSub_any 34 rfl (mSub_eq 84 rfl (mSub_any 86 rfl (mSub_any 87 rfl mSub_nil)))))) xa (cL.mono L100 (by omega)) hzl hcs (cJ_fr hp95.2.1 hp98.1 rfl) (rg_w rv99 rfl) (rg_w rv101 rfl) hW (lv_sub hl [2, 3, 4, 5, 6, 7, 1, 0] rfl) rfl
                              · skip
                                replace hW := wfP_i (wfP_r hW) (i_eq c204_78 rfl (rg_i kc_1))
                                have ic204_78 := congrArg Int32.toInt c204_78
                                have y102 : (1 : Int32).toInt = 1 := by decide
                                have q103 : rg (1) (1) v76 := (rg_eq c204_78 rv76 kc_1).1
                                have uq103 : (1 : Int) ≤ v76.toInt ∧ v76.toInt ≤ 1 := q103
                                refine lv_iconst (v := 1) hx hb dX11_arrive_207 (by decide) ?_
                                refine lv_goto (tgt := 212) hx hb dX11_arrive_208 (by decide) ?_
                                refine c_ci (As := [.ref (Z.ad 34 0), .int a178_7_60, .int (1 : Int32)]) (rest := []) x hml L62 9 0 al74 rfl (d_ksread l (X + (10 * a37_5_13.toInt + 2 + a178_8_61.toInt)) g62 0 0 a178_7_60 (1 : Int32) ⟨by omega, by omega⟩ al74 al75 (rg_w q73 rfl) (rg_w kc_1 rfl) hW) (wk_V kd_X9_read kl_X11_163 ki_X9_read ks_X9_X9_read kn_X9) rfl ⟨rfl, rfl⟩ hd_ksread ⟨Nat.le_of_ble_eq_true rfl, Nat.le_of_ble_eq_true rfl⟩ rfl hl.1 rfl (lv_room (Nat.le_of_ble_eq_true rfl)) dX11_arrive_212 (fun v105 g104 H104 k104 hp104 L104 => ?_) hcs
                                obtain ⟨hW, hi104, hp104⟩ := hp104
                                replace hW := wfP_i hW ⟨hi104, hp104⟩
                                have rv105 : rg (0) (1) v105 := hp104.2.1
                                have uv105 : (0 : Int) ≤ v105.toInt ∧ v105.toInt ≤ 1 := rv105
                                have hw106 := hp104.2.2
                                refine lv_if_eq (tgt := 230) hx hb dX11_arrive_215 (by decide) (fun c215_107 => ?_) (fun c215_107 => ?_)
                                · skip
                                  replace hW := wfP_i (wfP_l hW) (i_eq c215_107 rfl (rg_i kc_0))
                                  have ic215_107 := congrArg Int32.toInt c215_107
                                  have y108 : (0 : Int32).toInt = 0 := by decide
                                  have q109 : rg (0) (0) v105 := (rg_eq c215_107 rv105 kc_0).1
                                  have uq109 : (0 : Int) ≤ v105.toInt ∧ v105.toInt ≤ 0 := q109
                                  refine lv_aload_n hx hb dX11_arrive_230 rfl (lv_at hl 3 rfl) ?_
                                  have al110 : Z.al 5 v7.toInt.toNat := hz.2 5 v7.toInt.toNat (show v7.toInt.toNat < 2 * Z.n from (by omega))
                                  refine c_getr (a := Z.ad 5 v7.toInt.toNat) x L104 4 v7.toInt.toNat 1 al65 rfl rfl (wk_in kf_X11_85) dX11_arrive_231 ?_
                                  refine lv_aload_n hx hb dX11_arrive_234 rfl (lv_at hl 0 rfl) ?_
                                  refine c_getr (a := Z.ad 34 0) x L104 11 i0 6 al63 rfl rfl (wk_in kf_X11_16) dX11_arrive_235 ?_
                                  refine c_ci (As := [.ref (Z.ad 34 0)]) (rest := []) x hml L104 5 v7.toInt.toNat al110 rfl (d_ktakeNext l (X + (10 * a37_5_13.toInt + 2 + a178_8_61.toInt)) g104 v7.toInt.toNat 0 ⟨by omega, by omega⟩ (show v7.toInt.toNat < 2 * Z.n from (by omega)) al75 hW) (wk_V kd_X5_takeNext kl_X11_159 ki_X5_takeNext ks_X5_X5_takeNext kn_X5) rfl ⟨rfl, rfl⟩ hd_ktakeNext ⟨Nat.le_of_ble_eq_true rfl, Nat.le_of_ble_eq_true rfl⟩ rfl hl.1 rfl (lv_room (Nat.le_of_ble_eq_true rfl)) dX11_arrive_238 (fun v112 g111 H111 k111 hp111 L111 => ?_) hcs
                                  obtain ⟨hW, hi111, hp111⟩ := hp111
                                  replace hW := wfP_i hW ⟨hi111, hp111⟩
                                  have rv112 : rg (0) (60) v112 := hp111.2.1
                                  have uv112 : (0 : Int) ≤ v112.toInt ∧ v112.toInt ≤ 60 := rv112
                                  have L113 := cL.mono L111 (show _ ≤ (X + ((10 * a37_5_13.toInt + 2 + a178_8_61.toInt) + 1)) by omega)
                                  refine lv_istore (lv' := [(7, .int v112), (0, .ref (Z.ad 11 i0)), (1, .int p1), (2, .ref (Z.ad 3 q2)), (3, .ref (Z.ad 4 v7.toInt.toNat)), (4, .int v30), (5, .int a37_5_13), (8, .int a178_8_61)]) hx hb dX11_arrive_241 hl (by decide) rfl (fun ls hl => ?_)
                                  obtain ⟨v114, ev114, fv114⟩ := inc_ex a178_8_61 (1) (1 : Int32) (by decide)
                                  have rv114 : rg (1) (8) v114 := (rg_add ev114 q69 kc_1 rfl).1
                                  have tv114 := (rg_add ev114 q69 kc_1 rfl).2
                                  have yv114 : (1 : Int32).toInt = 1 := by decide
                                  replace hW := (wfP_i (wfP_i (wfP_i (wfP_a hW v114) ev114) rv114) (w_iadd tv114 rfl (rg_i kc_1)))
                                  refine lv_iinc (v := v114) (lv' := [(8, .int v114), (7, .int v112), (0, .ref (Z.ad 11 i0)), (1, .int p1), (2, .ref (Z.ad 3 q2)), (3, .ref (Z.ad 4 v7.toInt.toNat)), (4, .int v30), (5, .int a37_5_13)]) hx hb dX11_arrive_243 hl (k := 7) rfl fv114 (by decide) rfl (fun ls hl => ?_)
                                  refine lv_goto (tgt := 178) hx hb dX11_arrive_246 (by decide) ?_
                                  exact ih62 _ (ms_up tv114 kc_1 q69 rfl rfl) v112 v114 Z g111 _ _ ls _ _ (mFr.tr (mFr.tr hF62 hp104.1 rfl) hp111.1 rfl) (mFi.sub (mFi.sub hI62 hi104 (mSub_eq 57 rfl (mSub_eq 58 rfl (mSub_eq 59 rfl (mSub_eq 60 rfl (mSub_eq 61 rfl (mSub_eq 62 rfl (mSub_eq 63 rfl (mSub_eq 64 rfl (mSub_eq 65 rfl mSub_nil)))))))))) hi111 (mSub_any 33 rfl (mSub_any 34 rfl (mSub_eq 84 rfl (mSub_any 86 rfl (mSub_any 87 rfl mSub_nil)))))) xa (cL.mono L113 (by omega)) hzl hcs (cJ_fr (cJ_fr hJ62 hp104.1 rfl) hp111.1 rfl) (rg_w rv112 rfl) (rg_w rv114 rfl) hW (lv_sub hl [2, 3, 4, 5, 6, 7, 1, 0] rfl) rfl
                                · skip
                                  replace hW := wfP_i (wfP_r hW) (i_ne c215_107 rfl (rg_i kc_0))
                                  have ic215_107 : v105.toInt ≠ (0 : Int32).toInt := fun z => c215_107 (Int32.toInt_inj.mp z)
                                  have y115 : (0 : Int32).toInt = 0 := by decide
                                  have q116 : rg (1) (1) v105 := rg_neL c215_107 rv105 kc_0
                                  have uq116 : (1 : Int) ≤ v105.toInt ∧ v105.toInt ≤ 1 := q116
                                  refine lv_aload_n hx hb dX11_arrive_218 rfl (lv_at hl 3 rfl) ?_
                                  refine lv_aload_n hx hb dX11_arrive_219 rfl (lv_at hl 0 rfl) ?_
                                  refine c_getr (a := Z.ad 9 0) x L104 11 i0 5 al63 rfl rfl (wk_in kf_X11_12) dX11_arrive_220 ?_
                                  refine lv_aload_n hx hb dX11_arrive_223 rfl (lv_at hl 0 rfl) ?_
                                  refine c_geti x L104 11 i0 10 362 al63 rfl rfl (wk_in kf_X11_82) dX11_arrive_224 (fun v117 ev117 wv117 => ?_)
                                  have rv117 : rg (-2147483648) (2147483647) v117 := rg_any v117
                                  replace hW := (wfP_i (wfP_i (wfP_a hW v117) ev117) rv117)
                                  have uv117 : (-2147483648 : Int) ≤ v117.toInt ∧ v117.toInt ≤ 2147483647 := rv117
                                  have sv117 : v117.toInt = (g 362 i0).toInt := congrArg Int32.toInt (ev117.trans (congrFun ((show mFr [0, 1, 2, 32, 33, 34, 35, 36, 37, 38, 39, 40, 41, 42, 43, 44, 45, 46, 47, 48, 49, 67, 108, 109, 111, 135, 136, 164, 165, 166, 167, 168, 169, 170, 171, 172, 173, 174, 175, 176, 177, 178, 179, 180, 197, 198, 225, 226, 227, 228, 229, 230, 231, 232, 233, 234, 235, 288, 289, 290, 291, 292, 293, 294, 295, 296, 323, 384, 385, 386, 421, 422, 512, 544, 576, 768, 800, 832, 864, 928, 960, 992, 1024, 1056, 1088, 1248, 1280, 1344, 1536, 1728, 1729] g g104 from (mFr.tr (mFr.tr (mFr.tr (mFr.tr (mFr.tr (mFr.tr (mFr.tr mFr.rf hF14 rfl) hp28.1 rfl) hp38.1 rfl) hp49.1 rfl) hp57.1 rfl) hF62 rfl) hp104.1 rfl)).at 362 rfl) _))
                                  obtain ⟨n118_0, ho118, hW⟩ := wfP_e1 hW
                                  have hz0118 := hzl.2.2.2.1
                                  have hz1118 := hzl.2.2.2.2
                                  refine k_callv xa L104 (k_runU (x := ⟨"CellSwitch$Side", "came", "(LCellSwitch$Signal;I)V"⟩) (As := [.ref (Z.ad 9 0), .int v117]) (rest := []) ⟨hx, hb, hml, x.2.2.2.2.1, x.2.2.1⟩ (d_kcame_4 l (X + (10 * a37_5_13.toInt + 2 + a178_8_61.toInt)) g104 v7.toInt.toNat 0 v117 _ n118_0 ⟨by omega, by omega⟩ (cJ_fr hJ62 hp104.1 rfl) (by omega) (show v7.toInt.toNat < Z.n from (by omega)) al74 (hw106 (by omega)) hW) (va_cwU 2 x.2.2.1 (wk_U (owner := "CellSwitch$Side") kd_X8_came kl_X11_167 km_CellSwitchSide_CellSwitchSide_came ks_X4_CellSwitchSide_X8_came ki_X8_came kn_X8) rfl rfl rfl rfl (by decide +kernel) ⟨Nat.le_of_ble_eq_true rfl, Nat.le_of_ble_eq_true rfl⟩) ⟨cPreA.blind, c_recv x L104 al65 rfl, fun U hU hW => k_pre xa L104 U hU hW⟩ rfl rfl hl.1 rfl (lv_room (Nat.le_of_ble_eq_true rfl)) dX11_arrive_227 ⟨show c62 + 2 ≤ a by omega, show l62 + (18 + n118_0) ≤ b by omega⟩) (fun  Z g118 H118 k118 kc118 kn118 hk118 hn118 hp118 hz118 xa L118 => ?_)
                                  obtain ⟨hW, hi118, hp118⟩ := hp118
                                  replace hW := wfP_i (wfP_a (wfP_i hW ⟨hi118, hp118⟩) Z) rfl
                                  have hww118 := hp118.2.2.1
                                  have ea118_0 := hz118.2.2.1 11 i0 al63 (by omega)
                                  have ea118_1 := hz118.2.2.1 3 q2 al64 (by omega)
                                  have ea118_2 := hz118.2.2.1 4 v7.toInt.toNat al65 (by omega)
                                  rw [← ea118_0] at hl
                                  rw [← ea118_1] at hl
                                  rw [← ea118_2] at hl
                                  have al118_0 := hz118.2.1 11 i0 al63
                                  have al118_1 := hz118.2.1 3 q2 al64
                                  have al118_2 := hz118.2.1 4 v7.toInt.toNat al65
                                  have hZn118 := hz118.1
                                  have x := xa.1
                                  have hz := x.2.2.2.2.2.2.2.1
                                  have hzn := hz.1
                                  have hzl := cZl.tr hzl hz118
                                  have hcs : c62 + kc118 ≤ a ∧ l62 + kn118 ≤ b := by omega
                                  refine lv_aload_n hx hb dX11_arrive_230 rfl (lv_at hl 3 rfl) ?_
                                  have al119 : Z.al 5 v7.toInt.toNat := hz.2 5 v7.toInt.toNat (show v7.toInt.toNat < 2 * Z.n from (by omega))
                                  refine c_getr (a := Z.ad 5 v7.toInt.toNat) x L118 4 v7.toInt.toNat 1 al118_2 rfl rfl (wk_in kf_X11_85) dX11_arrive_231 ?_
                                  refine lv_aload_n hx hb dX11_arrive_234 rfl (lv_at hl 0 rfl) ?_
                                  have al120 : Z.al 34 0 := hz.2 34 0 (show 0 < 1 from (by omega))
                                  refine c_getr (a := Z.ad 34 0) x L118 11 i0 6 al118_0 rfl rfl (wk_in kf_X11_16) dX11_arrive_235 ?_
                                  refine c_ci (As := [.ref (Z.ad 34 0)]) (rest := []) x hml L118 5 v7.toInt.toNat al119 rfl (d_ktakeNext l (X + (10 * a37_5_13.toInt + 2 + a178_8_61.toInt)) g118 v7.toInt.toNat 0 ⟨by omega, by omega⟩ (show v7.toInt.toNat < 2 * Z.n from (by omega)) al120 hW) (wk_V kd_X5_takeNext kl_X11_159 ki_X5_takeNext ks_X5_X5_takeNext kn_X5) rfl ⟨rfl, rfl⟩ hd_ktakeNext ⟨Nat.le_of_ble_eq_true rfl, Nat.le_of_ble_eq_true rfl⟩ rfl hl.1 rfl (lv_room (Nat.le_of_ble_eq_true rfl)) dX11_arrive_238 (fun v122 g121 H121 k121 hp121 L121 => ?_) hcs
                                  obtain ⟨hW, hi121, hp121⟩ := hp121
                                  replace hW := wfP_i hW ⟨hi121, hp121⟩
                                  have rv122 : rg (0) (60) v122 := hp121.2.1
                                  have uv122 : (0 : Int) ≤ v122.toInt ∧ v122.toInt ≤ 60 := rv122
                                  have L123 := cL.mono L121 (show _ ≤ (X + ((10 * a37_5_13.toInt + 2 + a178_8_61.toInt) + 1)) by omega)
                                  refine lv_istore (lv' := [(7, .int v122), (0, .ref (Z.ad 11 i0)), (1, .int p1), (2, .ref (Z.ad 3 q2)), (3, .ref (Z.ad 4 v7.toInt.toNat)), (4, .int v30), (5, .int a37_5_13), (8, .int a178_8_61)]) hx hb dX11_arrive_241 hl (by decide) rfl (fun ls hl => ?_)
                                  obtain ⟨v124, ev124, fv124⟩ := inc_ex a178_8_61 (1) (1 : Int32) (by decide)
                                  have rv124 : rg (1) (8) v124 := (rg_add ev124 q69 kc_1 rfl).1
                                  have tv124 := (rg_add ev124 q69 kc_1 rfl).2
                                  have yv124 : (1 : Int32).toInt = 1 := by decide
                                  replace hW := (wfP_i (wfP_i (wfP_i (wfP_a hW v124) ev124) rv124) (w_iadd tv124 rfl (rg_i kc_1)))
                                  refine lv_iinc (v := v124) (lv' := [(8, .int v124), (7, .int v122), (0, .ref (Z.ad 11 i0)), (1, .int p1), (2, .ref (Z.ad 3 q2)), (3, .ref (Z.ad 4 v7.toInt.toNat)), (4, .int v30), (5, .int a37_5_13)]) hx hb dX11_arrive_243 hl (k := 7) rfl fv124 (by decide) rfl (fun ls hl => ?_)
                                  refine lv_goto (tgt := 178) hx hb dX11_arrive_246 (by decide) ?_
                                  exact ih62 _ (ms_up tv124 kc_1 q69 rfl rfl) v122 v124 Z g121 _ _ ls _ _ (mFr.tr (mFr.tr (mFr.tr hF62 hp104.1 rfl) hp118.1 rfl) hp121.1 rfl) (mFi.sub (mFi.sub (mFi.sub hI62 hi104 (mSub_eq 57 rfl (mSub_eq 58 rfl (mSub_eq 59 rfl (mSub_eq 60 rfl (mSub_eq 61 rfl (mSub_eq 62 rfl (mSub_eq 63 rfl (mSub_eq 64 rfl (mSub_eq 65 rfl mSub_nil)))))))))) hi118 (mSub_any 3 rfl (mSub_any 4 rfl (mSub_any 5 rfl (mSub_any 6 rfl (mSub_any 7 rfl (mSub_any 8 rfl (mSub_any 9 rfl (mSub_any 10 rfl (mSub_any 11 rfl (mSub_any 12 rfl (mSub_any 13 rfl (mSub_any 14 rfl (mSub_any 15 rfl (mSub_any 16 rfl (mSub_any 17 rfl (mSub_any 18 rfl (mSub_any 19 rfl (mSub_any 20 rfl (mSub_any 25 rfl (mSub_any 45 rfl (mSub_any 67 rfl (mSub_any 68 rfl (mSub_any 69 rfl (mSub_any 77 rfl (mSub_any 78 rfl (mSub_any 88 rfl (mSub_any 89 rfl (mSub_any 90 rfl mSub_nil))))))))))))))))))))))))))))) hi121 (mSub_any 33 rfl (mSub_any 34 rfl (mSub_eq 84 rfl (mSub_any 86 rfl (mSub_any 87 rfl mSub_nil)))))) xa (cL.mono L123 (by omega)) hzl hcs (cJ_fr hp118.2.1 hp121.1 rfl) (rg_w rv122 rfl) (rg_w rv124 rfl) hW (lv_sub hl [2, 3, 4, 5, 6, 7, 1, 0] rfl) rfl
                      have y125 : (0 : Int32).toInt = 0 := by decide
                      exact j178_62 _ v58 (0 : Int32) Z g57 _ _ ls _ _ mFr.rf mFi.rf xa (cL.mono L59 (by omega)) hzl hcs (cJ_fr (cJ_fr hp38.2.2.1 hp49.1 rfl) hp57.1 rfl) (rg_w rv58 rfl) (rg_w kc_0 rfl) hW (lv_sub hl [4, 5, 6, 7, 3, 8, 1, 0] rfl) rfl
                    · skip
                      replace hW := wfP_i (wfP_r hW) (i_eq c145_53 rfl (rg_i kc_2))
                      have ic145_53 := congrArg Int32.toInt c145_53
                      have y126 : (2 : Int32).toInt = 2 := by decide
                      have q127 : rg (2) (2) v50 := (rg_eq c145_53 rv50 kc_2).1
                      have uq127 : (2 : Int) ≤ v50.toInt ∧ v50.toInt ≤ 2 := q127
                      refine lv_aload_n hx hb dX11_arrive_148 rfl (lv_at hl 5 rfl) ?_
                      refine c_getr (a := Z.ad 5 v7.toInt.toNat) x L49 4 v7.toInt.toNat 1 al38_2 rfl rfl (wk_in kf_X11_85) dX11_arrive_149 ?_
                      refine lv_iconst (v := 3) hx hb dX11_arrive_152 (by decide) ?_
                      refine lv_bipush (v := 9) hx hb dX11_arrive_153 (by decide) ?_
                      refine lv_aload_n hx hb dX11_arrive_155 rfl (lv_at hl 2 rfl) ?_
                      refine c_geti x L49 11 i0 10 362 al38_0 rfl rfl (wk_in kf_X11_82) dX11_arrive_156 (fun v128 ev128 wv128 => ?_)
                      refine m_top (((mm_fr ev48 hp49.1 rfl)).trans ev128.symm) ?_
                      refine c_cv (As := [.int (3 : Int32), .int (9 : Int32), .int v48]) (rest := []) x hml L49 5 v7.toInt.toNat al44 rfl (d_kask l (X + ((10 * a37_5_13.toInt) + 1)) g49 v7.toInt.toNat (3 : Int32) (9 : Int32) v48 ⟨by omega, by omega⟩ (show v7.toInt.toNat < 2 * Z.n from (by omega)) (rg_w kc_3 rfl) hW) (wk_V kd_X5_ask kl_X11_155 ki_X5_ask ks_X5_X5_ask kn_X5) rfl ⟨rfl, rfl⟩ hd_kask ⟨Nat.le_of_ble_eq_true rfl, Nat.le_of_ble_eq_true rfl⟩ rfl hl.1 rfl (lv_room (Nat.le_of_ble_eq_true rfl)) dX11_arrive_159 (fun  g129 H129 k129 hp129 L129 => ?_) hcs
                      obtain ⟨hW, hi129, hp129⟩ := hp129
                      replace hW := wfP_i hW ⟨hi129, hp129⟩
                      refine lv_aload_n hx hb dX11_arrive_162 rfl (lv_at hl 5 rfl) ?_
                      refine c_getr (a := Z.ad 5 v7.toInt.toNat) x L129 4 v7.toInt.toNat 1 al38_2 rfl rfl (wk_in kf_X11_85) dX11_arrive_163 ?_
                      refine lv_aload_n hx hb dX11_arrive_166 rfl (lv_at hl 2 rfl) ?_
                      have al130 : Z.al 34 0 := hz.2 34 0 (show 0 < 1 from (by omega))
                      refine c_getr (a := Z.ad 34 0) x L129 11 i0 6 al38_0 rfl rfl (wk_in kf_X11_16) dX11_arrive_167 ?_
                      refine c_ci (As := [.ref (Z.ad 34 0)]) (rest := []) x hml L129 5 v7.toInt.toNat al44 rfl (d_ktakeNext l (X + ((10 * a37_5_13.toInt) + 1)) g129 v7.toInt.toNat 0 ⟨by omega, by omega⟩ (show v7.toInt.toNat < 2 * Z.n from (by omega)) al130 hW) (wk_V kd_X5_takeNext kl_X11_159 ki_X5_takeNext ks_X5_X5_takeNext kn_X5) rfl ⟨rfl, rfl⟩ hd_ktakeNext ⟨Nat.le_of_ble_eq_true rfl, Nat.le_of_ble_eq_true rfl⟩ rfl hl.1 rfl (lv_room (Nat.le_of_ble_eq_true rfl)) dX11_arrive_170 (fun v132 g131 H131 k131 hp131 L131 => ?_) hcs
                      obtain ⟨hW, hi131, hp131⟩ := hp131
                      replace hW := wfP_i hW ⟨hi131, hp131⟩
                      have rv132 : rg (0) (60) v132 := hp131.2.1
                      have uv132 : (0 : Int) ≤ v132.toInt ∧ v132.toInt ≤ 60 := rv132
                      have L133 := cL.mono L131 (show _ ≤ (X + (((10 * a37_5_13.toInt) + 1) + 1)) by omega)
                      refine lv_istore (lv' := [(7, .int v132), (6, .int v50), (4, .int v30), (0, .ref (Z.ad 11 i0)), (1, .int p1), (2, .ref (Z.ad 3 q2)), (3, .ref (Z.ad 4 v7.toInt.toNat)), (5, .int a37_5_13)]) hx hb dX11_arrive_173 hl (by decide) rfl (fun ls hl => ?_)
                      refine lv_iconst (v := 0) hx hb dX11_arrive_175 (by decide) ?_
                      refine lv_istore (lv' := [(8, .int (0 : Int32)), (7, .int v132), (6, .int v50), (4, .int v30), (0, .ref (Z.ad 11 i0)), (1, .int p1), (2, .ref (Z.ad 3 q2)), (3, .ref (Z.ad 4 v7.toInt.toNat)), (5, .int a37_5_13)]) hx hb dX11_arrive_176 hl (by decide) rfl (fun ls hl => ?_)
                      obtain ⟨P136, hP136, hW⟩ := wfP_ex hW
                      have j178_136 : ∀ (n : Nat) (a178_7_134 a178_8_135 : Int32) (Z : cZ) (g136 : mSt) (H136 : Heap) (k136 : List Loc) (ls : Array Slot) (c136 l136 : Nat), mFr [32, 33, 34, 35, 36, 37, 38, 39, 40, 41, 42, 43, 44, 45, 46, 47, 48, 49, 135, 170, 171, 198, 288, 289, 290, 291, 292, 293, 294, 295, 296, 323, 384, 385, 386, 832, 864, 1088, 1280, 1344, 1536, 1728, 1729] g131 g136 → mFi (im_karrive i0 p1 q2) g131 g136 → cXA p c cX11_arrive s args (wk (Cond.code yX11_arrive cX11_arrive 9 none)) m G Z A RX11 H0 → cL G Z A H0 (X + (10 * a37_5_13.toInt + 2 + a178_8_135.toInt)) g136 H136 k136 → cZl Z0 Z c136 l136 → (c136 ≤ a ∧ l136 ≤ b) → cJ Z g136 → rg (0) (60) a178_7_134 → rg (0) (8) a178_8_135 → wfP (P136 a178_7_134 a178_8_135 Z g136) → lv_has ls 9 [(0, .ref (Z.ad 11 i0)), (1, .int p1), (2, .ref (Z.ad 3 q2)), (3, .ref (Z.ad 4 v7.toInt.toNat)), (4, .int v30), (5, .int a37_5_13), (7, .int a178_7_134), (8, .int a178_8_135)] → ((8 : Int) - a178_8_135.toInt).toNat = n → W p l e (rm_karrive a b) s m args below meth c H136 k136 c136 l136 Q (F0 m 178 ls []) := by
                        intro n
                        induction n using Nat.strongRecOn with
                        | _ n ih136 =>
                          intro a178_7_134 a178_8_135 Z g136 H136 k136 ls c136 l136 hF136 hI136 xa L136 hzl hcs hJ136 ra178_7_134 ra178_8_135 hW hl hn136
                          subst hn136
                          have x := xa.1
                          have hz := x.2.2.2.2.2.2.2.1
                          have hzn := hz.1
                          have hZn136 := hzl.1
                          replace hW := wfP_i (wfP_i (wfP_i (wfP_i (wfP_i (wfP_i (wfP_i (wfP_a (wfP_a (wfP_a (wfP_a hP136 a178_7_134) a178_8_135) Z) g136) hF136) hI136) hJ136) hzl.1) ra178_7_134) ra178_8_135) hW
                          have ua178_7_134 : (0 : Int) ≤ a178_7_134.toInt ∧ a178_7_134.toInt ≤ 60 := ra178_7_134
                          have ua178_8_135 : (0 : Int) ≤ a178_8_135.toInt ∧ a178_8_135.toInt ≤ 8 := ra178_8_135
                          have al137 := hzl.2.1 11 i0 hal0
                          have al138 := hzl.2.1 3 q2 hq2
                          have al139 : Z.al 4 v7.toInt.toNat := hz.2 4 v7.toInt.toNat (show v7.toInt.toNat < Z.n from (by omega))
                          refine lv_iload hx hb dX11_arrive_178 (lv_at hl 7 rfl) ?_
                          refine lv_bipush (v := 8) hx hb dX11_arrive_180 (by decide) ?_
                          refine lv_icmp_ge (tgt := 249) hx hb dX11_arrive_182 (by decide) (fun c182_140 => ?_) (fun c182_140 => ?_)
                          · skip
                            replace hW := wfP_i (wfP_l hW) (i_le c182_140 (rg_i kc_8) rfl)
                            have ic182_140 := Int32.le_iff_toInt_le.mp c182_140
                            have q141 : rg (8) (8) a178_8_135 := (rg_le c182_140 kc_8 ra178_8_135).2
                            have uq141 : (8 : Int) ≤ a178_8_135.toInt ∧ a178_8_135.toInt ≤ 8 := q141
                            obtain ⟨v142, ev142, fv142⟩ := inc_ex a37_5_13 (1) (1 : Int32) (by decide)
                            have rv142 : rg (1) (212) v142 := (rg_add ev142 q20 kc_1 rfl).1
                            have tv142 := (rg_add ev142 q20 kc_1 rfl).2
                            have yv142 : (1 : Int32).toInt = 1 := by decide
                            replace hW := (wfP_i (wfP_i (wfP_i (wfP_a hW v142) ev142) rv142) (w_iadd tv142 rfl (rg_i kc_1)))
                            refine lv_iinc (v := v142) (lv' := [(5, .int v142), (0, .ref (Z.ad 11 i0)), (1, .int p1), (2, .ref (Z.ad 3 q2)), (3, .ref (Z.ad 4 v7.toInt.toNat)), (4, .int v30), (7, .int a178_7_134), (8, .int a178_8_135)]) hx hb dX11_arrive_249 hl (k := 5) rfl fv142 (by decide) rfl (fun ls hl => ?_)
                            refine lv_goto (tgt := 37) hx hb dX11_arrive_252 (by decide) ?_
                            exact ih14 _ (ms_up tv142 kc_1 q20 rfl rfl) v30 v142 Z g136 _ _ ls _ _ (mFr.tr (mFr.tr (mFr.tr (mFr.tr (mFr.tr (mFr.tr hF14 hp28.1 rfl) hp38.1 rfl) hp49.1 rfl) hp129.1 rfl) hp131.1 rfl) hF136 rfl) (mFi.tr (mFi.sub (mFi.sub (mFi.sub (mFi.sub (mFi.sub hI14 hi28 (mSub_eq 46 rfl (mSub_eq 47 rfl (mSub_eq 48 rfl (mSub_eq 49 rfl (mSub_eq 50 rfl (mSub_eq 51 rfl (mSub_eq 52 rfl (mSub_eq 53 rfl (mSub_eq 54 rfl (mSub_eq 55 rfl (mSub_eq 56 rfl (mSub_eq 76 rfl mSub_nil))))))))))))) hi38 (mSub_any 0 rfl (mSub_any 1 rfl (mSub_any 2 rfl (mSub_any 17 rfl (mSub_any 21 rfl (mSub_any 22 rfl (mSub_eq 23 rfl (mSub_any 26 rfl (mSub_any 72 rfl (mSub_any 73 rfl (mSub_any 74 rfl (mSub_any 80 rfl (mSub_any 81 rfl (mSub_any 82 rfl (mSub_any 83 rfl mSub_nil)))))))))))))))) hi49 (mSub_any 21 rfl (mSub_any 22 rfl (mSub_any 24 rfl (mSub_any 27 rfl (mSub_any 28 rfl (mSub_any 29 rfl (mSub_any 30 rfl (mSub_any 31 rfl (mSub_any 32 rfl (mSub_any 33 rfl (mSub_any 34 rfl (mSub_any 35 rfl (mSub_any 37 rfl (mSub_any 38 rfl (mSub_any 41 rfl (mSub_any 42 rfl (mSub_any 43 rfl (mSub_any 44 rfl (mSub_any 45 rfl (mSub_any 70 rfl (mSub_any 70 rfl (mSub_any 71 rfl (mSub_any 71 rfl (mSub_any 73 rfl (mSub_any 74 rfl (mSub_any 75 rfl (mSub_any 78 rfl (mSub_any 79 rfl (mSub_any 85 rfl (mSub_any 86 rfl (mSub_any 86 rfl (mSub_any 87 rfl (mSub_any 87 rfl mSub_nil)))))))))))))))))))))))))))))))))) hi129 (mSub_any 21 rfl (mSub_any 22 rfl (mSub_any 24 rfl (mSub_any 27 rfl (mSub_any 36 rfl (mSub_any 39 rfl (mSub_any 40 rfl (mSub_any 41 rfl (mSub_any 73 rfl (mSub_any 74 rfl (mSub_any 75 rfl mSub_nil)))))))))))) hi131 (mSub_any 33 rfl (mSub_any 34 rfl (mSub_eq 84 rfl (mSub_any 86 rfl (mSub_any 87 rfl mSub_nil)))))) hI136) xa (cL.mono L136 (by omega)) hzl hcs hJ136 (rg_w rv30 rfl) (rg_w rv142 rfl) hW (lv_sub hl [1, 2, 3, 4, 5, 0] rfl) rfl
                          · skip
                            replace hW := wfP_i (wfP_r hW) (i_lt (rg_nle c182_140) rfl (rg_i kc_8))
                            have ic182_140 := Int32.lt_iff_toInt_lt.mp (rg_nle c182_140)
                            have q143 : rg (0) (7) a178_8_135 := (rg_lt (rg_nle c182_140) ra178_8_135 kc_8).1
                            have uq143 : (0 : Int) ≤ a178_8_135.toInt ∧ a178_8_135.toInt ≤ 7 := q143
                            refine lv_iload hx hb dX11_arrive_185 (lv_at hl 6 rfl) ?_
                            refine lv_if_le (tgt := 249) hx hb dX11_arrive_187 (by decide) (fun c187_144 => ?_) (fun c187_144 => ?_)
                            · skip
                              replace hW := wfP_i (wfP_l hW) (i_le c187_144 rfl (rg_i kc_0))
                              have ic187_144 := Int32.le_iff_toInt_le.mp c187_144
                              have q145 : rg (0) (0) a178_7_134 := (rg_le c187_144 ra178_7_134 kc_0).1
                              have uq145 : (0 : Int) ≤ a178_7_134.toInt ∧ a178_7_134.toInt ≤ 0 := q145
                              obtain ⟨v146, ev146, fv146⟩ := inc_ex a37_5_13 (1) (1 : Int32) (by decide)
                              have rv146 : rg (1) (212) v146 := (rg_add ev146 q20 kc_1 rfl).1
                              have tv146 := (rg_add ev146 q20 kc_1 rfl).2
                              have yv146 : (1 : Int32).toInt = 1 := by decide
                              replace hW := (wfP_i (wfP_i (wfP_i (wfP_a hW v146) ev146) rv146) (w_iadd tv146 rfl (rg_i kc_1)))
                              refine lv_iinc (v := v146) (lv' := [(5, .int v146), (0, .ref (Z.ad 11 i0)), (1, .int p1), (2, .ref (Z.ad 3 q2)), (3, .ref (Z.ad 4 v7.toInt.toNat)), (4, .int v30), (7, .int a178_7_134), (8, .int a178_8_135)]) hx hb dX11_arrive_249 hl (k := 5) rfl fv146 (by decide) rfl (fun ls hl => ?_)
                              refine lv_goto (tgt := 37) hx hb dX11_arrive_252 (by decide) ?_
                              exact ih14 _ (ms_up tv146 kc_1 q20 rfl rfl) v30 v146 Z g136 _ _ ls _ _ (mFr.tr (mFr.tr (mFr.tr (mFr.tr (mFr.tr (mFr.tr hF14 hp28.1 rfl) hp38.1 rfl) hp49.1 rfl) hp129.1 rfl) hp131.1 rfl) hF136 rfl) (mFi.tr (mFi.sub (mFi.sub (mFi.sub (mFi.sub (mFi.sub hI14 hi28 (mSub_eq 46 rfl (mSub_eq 47 rfl (mSub_eq 48 rfl (mSub_eq 49 rfl (mSub_eq 50 rfl (mSub_eq 51 rfl (mSub_eq 52 rfl (mSub_eq 53 rfl (mSub_eq 54 rfl (mSub_eq 55 rfl (mSub_eq 56 rfl (mSub_eq 76 rfl mSub_nil))))))))))))) hi38 (mSub_any 0 rfl (mSub_any 1 rfl (mSub_any 2 rfl (mSub_any 17 rfl (mSub_any 21 rfl (mSub_any 22 rfl (mSub_eq 23 rfl (mSub_any 26 rfl (mSub_any 72 rfl (mSub_any 73 rfl (mSub_any 74 rfl (mSub_any 80 rfl (mSub_any 81 rfl (mSub_any 82 rfl (mSub_any 83 rfl mSub_nil)))))))))))))))) hi49 (mSub_any 21 rfl (mSub_any 22 rfl (mSub_any 24 rfl (mSub_any 27 rfl (mSub_any 28 rfl (mSub_any 29 rfl (mSub_any 30 rfl (mSub_any 31 rfl (mSub_any 32 rfl (mSub_any 33 rfl (mSub_any 34 rfl (mSub_any 35 rfl (mSub_any 37 rfl (mSub_any 38 rfl (mSub_any 41 rfl (mSub_any 42 rfl (mSub_any 43 rfl (mSub_any 44 rfl (mSub_any 45 rfl (mSub_any 70 rfl (mSub_any 70 rfl (mSub_any 71 rfl (mSub_any 71 rfl (mSub_any 73 rfl (mSub_any 74 rfl (mSub_any 75 rfl (mSub_any 78 rfl (mSub_any 79 rfl (mSub_any 85 rfl (mSub_any 86 rfl (mSub_any 86 rfl (mSub_any 87 rfl (mSub_any 87 rfl mSub_nil)))))))))))))))))))))))))))))))))) hi129 (mSub_any 21 rfl (mSub_any 22 rfl (mSub_any 24 rfl (mSub_any 27 rfl (mSub_any 36 rfl (mSub_any 39 rfl (mSub_any 40 rfl (mSub_any 41 rfl (mSub_any 73 rfl (mSub_any 74 rfl (mSub_any 75 rfl mSub_nil)))))))))))) hi131 (mSub_any 33 rfl (mSub_any 34 rfl (mSub_eq 84 rfl (mSub_any 86 rfl (mSub_any 87 rfl mSub_nil)))))) hI136) xa (cL.mono L136 (by omega)) hzl hcs hJ136 (rg_w rv30 rfl) (rg_w rv146 rfl) hW (lv_sub hl [1, 2, 3, 4, 5, 0] rfl) rfl
                            · skip
                              replace hW := wfP_i (wfP_r hW) (i_lt (rg_nle c187_144) (rg_i kc_0) rfl)
                              have ic187_144 := Int32.lt_iff_toInt_lt.mp (rg_nle c187_144)
                              have q147 : rg (1) (60) a178_7_134 := (rg_lt (rg_nle c187_144) kc_0 ra178_7_134).2
                              have uq147 : (1 : Int) ≤ a178_7_134.toInt ∧ a178_7_134.toInt ≤ 60 := q147
                              refine lv_aload_n hx hb dX11_arrive_190 rfl (lv_at hl 0 rfl) ?_
                              have al148 : Z.al 9 0 := hz.2 9 0 (show 0 < 1 from (by omega))
                              refine c_getr (a := Z.ad 9 0) x L136 11 i0 5 al137 rfl rfl (wk_in kf_X11_12) dX11_arrive_191 ?_
                              refine lv_aload_n hx hb dX11_arrive_194 rfl (lv_at hl 0 rfl) ?_
                              have al149 : Z.al 34 0 := hz.2 34 0 (show 0 < 1 from (by omega))
                              refine c_getr (a := Z.ad 34 0) x L136 11 i0 6 al137 rfl rfl (wk_in kf_X11_16) dX11_arrive_195 ?_
                              refine lv_iload hx hb dX11_arrive_198 (lv_at hl 6 rfl) ?_
                              refine lv_iload_n hx hb dX11_arrive_200 rfl (lv_at hl 1 rfl) ?_
                              refine lv_iconst (v := 2) hx hb dX11_arrive_201 (by decide) ?_
                              refine lv_irem hx hb dX11_arrive_202 (by decide) ?_
                              refine lv_topi (fun v150 ev150 => ?_)
                              have rv150 : rg (0) (1) v150 := (rg_rem ev150 rp1 kc_2 rfl).1
                              replace hW := (wfP_i (wfP_i (wfP_i (wfP_a hW v150) ev150) rv150) ((rg_rem ev150 rp1 kc_2 rfl).2))
                              have tv150 := (rg_rem ev150 rp1 kc_2 rfl).2
                              have y151 : (2 : Int32).toInt = 2 := by decide
                              have uv150 : (0 : Int) ≤ v150.toInt ∧ v150.toInt ≤ 1 := rv150
                              refine lv_iconst (v := 1) hx hb dX11_arrive_203 (by decide) ?_
                              refine lv_icmp_ne (tgt := 211) hx hb dX11_arrive_204 (by decide) (fun c204_152 => ?_) (fun c204_152 => ?_)
                              · skip
                                replace hW := wfP_i (wfP_l hW) (i_ne c204_152 rfl (rg_i kc_1))
                                have ic204_152 : v150.toInt ≠ (1 : Int32).toInt := fun z => c204_152 (Int32.toInt_inj.mp z)
                                have y153 : (1 : Int32).toInt = 1 := by decide
                                have q154 : rg (0) (0) v150 := rg_neH c204_152 rv150 kc_1
                                have uq154 : (0 : Int) ≤ v150.toInt ∧ v150.toInt ≤ 0 := q154
                                refine lv_iconst (v := 0) hx hb dX11_arrive_211 (by decide) ?_
                                refine c_ci (As := [.ref (Z.ad 34 0), .int a178_7_134, .int (0 : Int32)]) (rest := []) x hml L136 9 0 al148 rfl (d_ksread l (X + (10 * a37_5_13.toInt + 2 + a178_8_135.toInt)) g136 0 0 a178_7_134 (0 : Int32) ⟨by omega, by omega⟩ al148 al149 (rg_w q147 rfl) (rg_w kc_0 rfl) hW) (wk_V kd_X9_read kl_X11_163 ki_X9_read ks_X9_X9_read kn_X9) rfl ⟨rfl, rfl⟩ hd_ksread ⟨Nat.le_of_ble_eq_true rfl, Nat.le_of_ble_eq_true rfl⟩ rfl hl.1 rfl (lv_room (Nat.le_of_ble_eq_true rfl)) dX11_arrive_212 (fun v156 g155 H155 k155 hp155 L155 => ?_) hcs
                                obtain ⟨hW, hi155, hp155⟩ := hp155
                                replace hW := wfP_i hW ⟨hi155, hp155⟩
                                have rv156 : rg (0) (1) v156 := hp155.2.1
                                have uv156 : (0 : Int) ≤ v156.toInt ∧ v156.toInt ≤ 1 := rv156
                                have hw157 := hp155.2.2
                                refine lv_if_eq (tgt := 230) hx hb dX11_arrive_215 (by decide) (fun c215_158 => ?_) (fun c215_158 => ?_)
                                · skip
                                  replace hW := wfP_i (wfP_l hW) (i_eq c215_158 rfl (rg_i kc_0))
                                  have ic215_158 := congrArg Int32.toInt c215_158
                                  have y159 : (0 : Int32).toInt = 0 := by decide
                                  have q160 : rg (0) (0) v156 := (rg_eq c215_158 rv156 kc_0).1
                                  have uq160 : (0 : Int) ≤ v156.toInt ∧ v156.toInt ≤ 0 := q160
                                  refine lv_aload_n hx hb dX11_arrive_230 rfl (lv_at hl 3 rfl) ?_
                                  have al161 : Z.al 5 v7.toInt.toNat := hz.2 5 v7.toInt.toNat (show v7.toInt.toNat < 2 * Z.n from (by omega))
                                  refine c_getr (a := Z.ad 5 v7.toInt.toNat) x L155 4 v7.toInt.toNat 1 al139 rfl rfl (wk_in kf_X11_85) dX11_arrive_231 ?_
                                  refine lv_aload_n hx hb dX11_arrive_234 rfl (lv_at hl 0 rfl) ?_
                                  refine c_getr (a := Z.ad 34 0) x L155 11 i0 6 al137 rfl rfl (wk_in kf_X11_16) dX11_arrive_235 ?_
                                  refine c_ci (As := [.ref (Z.ad 34 0)]) (rest := []) x hml L155 5 v7.toInt.toNat al161 rfl (d_ktakeNext l (X + (10 * a37_5_13.toInt + 2 + a178_8_135.toInt)) g155 v7.toInt.toNat 0 ⟨by omega, by omega⟩ (show v7.toInt.toNat < 2 * Z.n from (by omega)) al149 hW) (wk_V kd_X5_takeNext kl_X11_159 ki_X5_takeNext ks_X5_X5_takeNext kn_X5) rfl ⟨rfl, rfl⟩ hd_ktakeNext ⟨Nat.le_of_ble_eq_true rfl, Nat.le_of_ble_eq_true rfl⟩ rfl hl.1 rfl (lv_room (Nat.le_of_ble_eq_true rfl)) dX11_arrive_238 (fun v163 g162 H162 k162 hp162 L162 => ?_) hcs
                                  obtain ⟨hW, hi162, hp162⟩ := hp162
                                  replace hW := wfP_i hW ⟨hi162, hp162⟩
                                  have rv163 : rg (0) (60) v163 := hp162.2.1
                                  have uv163 : (0 : Int) ≤ v163.toInt ∧ v163.toInt ≤ 60 := rv163
                                  have L164 := cL.mono L162 (show _ ≤ (X + ((10 * a37_5_13.toInt + 2 + a178_8_135.toInt) + 1)) by omega)
                                  refine lv_istore (lv' := [(7, .int v163), (0, .ref (Z.ad 11 i0)), (1, .int p1), (2, .ref (Z.ad 3 q2)), (3, .ref (Z.ad 4 v7.toInt.toNat)), (4, .int v30), (5, .int a37_5_13), (8, .int a178_8_135)]) hx hb dX11_arrive_241 hl (by decide) rfl (fun ls hl => ?_)
                                  obtain ⟨v165, ev165, fv165⟩ := inc_ex a178_8_135 (1) (1 : Int32) (by decide)
                                  have rv165 : rg (1) (8) v165 := (rg_add ev165 q143 kc_1 rfl).1
                                  have tv165 := (rg_add ev165 q143 kc_1 rfl).2
                                  have yv165 : (1 : Int32).toInt = 1 := by decide
                                  replace hW := (wfP_i (wfP_i (wfP_i (wfP_a hW v165) ev165) rv165) (w_iadd tv165 rfl (rg_i kc_1)))
                                  refine lv_iinc (v := v165) (lv' := [(8, .int v165), (7, .int v163), (0, .ref (Z.ad 11 i0)), (1, .int p1), (2, .ref (Z.ad 3 q2)), (3, .ref (Z.ad 4 v7.toInt.toNat)), (4, .int v30), (5, .int a37_5_13)]) hx hb dX11_arrive_243 hl (k := 7) rfl fv165 (by decide) rfl (fun ls hl => ?_)
                                  refine lv_goto (tgt := 178) hx hb dX11_arrive_246 (by decide) ?_
                                  exact ih136 _ (ms_up tv165 kc_1 q143 rfl rfl) v163 v165 Z g162 _ _ ls _ _ (mFr.tr (mFr.tr hF136 hp155.1 rfl) hp162.1 rfl) (mFi.sub (mFi.sub hI136 hi155 (mSub_eq 57 rfl (mSub_eq 58 rfl (mSub_eq 59 rfl (mSub_eq 60 rfl (mSub_eq 61 rfl (mSub_eq 62 rfl (mSub_eq 63 rfl (mSub_eq 64 rfl (mSub_eq 65 rfl mSub_nil)))))))))) hi162 (mSub_any 33 rfl (mSub_any 34 rfl (mSub_eq 84 rfl (mSub_any 86 rfl (mSub_any 87 rfl mSub_nil)))))) xa (cL.mono L164 (by omega)) hzl hcs (cJ_fr (cJ_fr hJ136 hp155.1 rfl) hp162.1 rfl) (rg_w rv163 rfl) (rg_w rv165 rfl) hW (lv_sub hl [2, 3, 4, 5, 6, 7, 1, 0] rfl) rfl
                                · skip
                                  replace hW := wfP_i (wfP_r hW) (i_ne c215_158 rfl (rg_i kc_0))
                                  have ic215_158 : v156.toInt ≠ (0 : Int32).toInt := fun z => c215_158 (Int32.toInt_inj.mp z)
                                  have y166 : (0 : Int32).toInt = 0 := by decide
                                  have q167 : rg (1) (1) v156 := rg_neL c215_158 rv156 kc_0
                                  have uq167 : (1 : Int) ≤ v156.toInt ∧ v156.toInt ≤ 1 := q167
                                  refine lv_aload_n hx hb dX11_arrive_218 rfl (lv_at hl 3 rfl) ?_
                                  refine lv_aload_n hx hb dX11_arrive_219 rfl (lv_at hl 0 rfl) ?_
                                  refine c_getr (a := Z.ad 9 0) x L155 11 i0 5 al137 rfl rfl (wk_in kf_X11_12) dX11_arrive_220 ?_
                                  refine lv_aload_n hx hb dX11_arrive_223 rfl (lv_at hl 0 rfl) ?_
                                  refine c_geti x L155 11 i0 10 362 al137 rfl rfl (wk_in kf_X11_82) dX11_arrive_224 (fun v168 ev168 wv168 => ?_)
                                  have rv168 : rg (-2147483648) (2147483647) v168 := rg_any v168
                                  replace hW := (wfP_i (wfP_i (wfP_a hW v168) ev168) rv168)
                                  have uv168 : (-2147483648 : Int) ≤ v168.toInt ∧ v168.toInt ≤ 2147483647 := rv168
                                  have sv168 : v168.toInt = (g 362 i0).toInt := congrArg Int32.toInt (ev168.trans (congrFun ((show mFr [0, 1, 2, 32, 33, 34, 35, 36, 37, 38, 39, 40, 41, 42, 43, 44, 45, 46, 47, 48, 49, 67, 108, 109, 111, 135, 136, 164, 165, 166, 167, 168, 169, 170, 171, 172, 173, 174, 175, 176, 177, 178, 179, 180, 197, 198, 225, 226, 227, 228, 229, 230, 231, 232, 233, 234, 235, 288, 289, 290, 291, 292, 293, 294, 295, 296, 323, 384, 385, 386, 421, 422, 512, 544, 576, 768, 800, 832, 864, 928, 960, 992, 1024, 1056, 1088, 1248, 1280, 1344, 1536, 1728, 1729] g g155 from (mFr.tr (mFr.tr (mFr.tr (mFr.tr (mFr.tr (mFr.tr (mFr.tr (mFr.tr mFr.rf hF14 rfl) hp28.1 rfl) hp38.1 rfl) hp49.1 rfl) hp129.1 rfl) hp131.1 rfl) hF136 rfl) hp155.1 rfl)).at 362 rfl) _))
                                  obtain ⟨n169_0, ho169, hW⟩ := wfP_e1 hW
                                  have hz0169 := hzl.2.2.2.1
                                  have hz1169 := hzl.2.2.2.2
                                  refine k_callv xa L155 (k_runU (x := ⟨"CellSwitch$Side", "came", "(LCellSwitch$Signal;I)V"⟩) (As := [.ref (Z.ad 9 0), .int v168]) (rest := []) ⟨hx, hb, hml, x.2.2.2.2.1, x.2.2.1⟩ (d_kcame_4 l (X + (10 * a37_5_13.toInt + 2 + a178_8_135.toInt)) g155 v7.toInt.toNat 0 v168 _ n169_0 ⟨by omega, by omega⟩ (cJ_fr hJ136 hp155.1 rfl) (by omega) (show v7.toInt.toNat < Z.n from (by omega)) al148 (hw157 (by omega)) hW) (va_cwU 2 x.2.2.1 (wk_U (owner := "CellSwitch$Side") kd_X8_came kl_X11_167 km_CellSwitchSide_CellSwitchSide_came ks_X4_CellSwitchSide_X8_came ki_X8_came kn_X8) rfl rfl rfl rfl (by decide +kernel) ⟨Nat.le_of_ble_eq_true rfl, Nat.le_of_ble_eq_true rfl⟩) ⟨cPreA.blind, c_recv x L155 al139 rfl, fun U hU hW => k_pre xa L155 U hU hW⟩ rfl rfl hl.1 rfl (lv_room (Nat.le_of_ble_eq_true rfl)) dX11_arrive_227 ⟨show c136 + 2 ≤ a by omega, show l136 + (18 + n169_0) ≤ b by omega⟩) (fun  Z g169 H169 k169 kc169 kn169 hk169 hn169 hp169 hz169 xa L169 => ?_)
                                  obtain ⟨hW, hi169, hp169⟩ := hp169
                                  replace hW := wfP_i (wfP_a (wfP_i hW ⟨hi169, hp169⟩) Z) rfl
                                  have hww169 := hp169.2.2.1
                                  have ea169_0 := hz169.2.2.1 11 i0 al137 (by omega)
                                  have ea169_1 := hz169.2.2.1 3 q2 al138 (by omega)
                                  have ea169_2 := hz169.2.2.1 4 v7.toInt.toNat al139 (by omega)
                                  rw [← ea169_0] at hl
                                  rw [← ea169_1] at hl
                                  rw [← ea169_2] at hl
                                  have al169_0 := hz169.2.1 11 i0 al137
                                  have al169_1 := hz169.2.1 3 q2 al138
                                  have al169_2 := hz169.2.1 4 v7.toInt.toNat al139
                                  have hZn169 := hz169.1
                                  have x := xa.1
                                  have hz := x.2.2.2.2.2.2.2.1
                                  have hzn := hz.1
                                  have hzl := cZl.tr hzl hz169
                                  have hcs : c136 + kc169 ≤ a ∧ l136 + kn169 ≤ b := by omega
                                  refine lv_aload_n hx hb dX11_arrive_230 rfl (lv_at hl 3 rfl) ?_
                                  have al170 : Z.al 5 v7.toInt.toNat := hz.2 5 v7.toInt.toNat (show v7.toInt.toNat < 2 * Z.n from (by omega))
                                  refine c_getr (a := Z.ad 5 v7.toInt.toNat) x L169 4 v7.toInt.toNat 1 al169_2 rfl rfl (wk_in kf_X11_85) dX11_arrive_231 ?_
                                  refine lv_aload_n hx hb dX11_arrive_234 rfl (lv_at hl 0 rfl) ?_
                                  have al171 : Z.al 34 0 := hz.2 34 0 (show 0 < 1 from (by omega))
                                  refine c_getr (a := Z.ad 34 0) x L169 11 i0 6 al169_0 rfl rfl (wk_in kf_X11_16) dX11_arrive_235 ?_
                                  refine c_ci (As := [.ref (Z.ad 34 0)]) (rest := []) x hml L169 5 v7.toInt.toNat al170 rfl (d_ktakeNext l (X + (10 * a37_5_13.toInt + 2 + a178_8_135.toInt)) g169 v7.toInt.toNat 0 ⟨by omega, by omega⟩ (show v7.toInt.toNat < 2 * Z.n from (by omega)) al171 hW) (wk_V kd_X5_takeNext kl_X11_159 ki_X5_takeNext ks_X5_X5_takeNext kn_X5) rfl ⟨rfl, rfl⟩ hd_ktakeNext ⟨Nat.le_of_ble_eq_true rfl, Nat.le_of_ble_eq_true rfl⟩ rfl hl.1 rfl (lv_room (Nat.le_of_ble_eq_true rfl)) dX11_arrive_238 (fun v173 g172 H172 k172 hp172 L172 => ?_) hcs
                                  obtain ⟨hW, hi172, hp172⟩ := hp172
                                  replace hW := wfP_i hW ⟨hi172, hp172⟩
                                  have rv173 : rg (0) (60) v173 := hp172.2.1
                                  have uv173 : (0 : Int) ≤ v173.toInt ∧ v173.toInt ≤ 60 := rv173
                                  have L174 := cL.mono L172 (show _ ≤ (X + ((10 * a37_5_13.toInt + 2 + a178_8_135.toInt) + 1)) by omega)
                                  refine lv_istore (lv' := [(7, .int v173), (0, .ref (Z.ad 11 i0)), (1, .int p1), (2, .ref (Z.ad 3 q2)), (3, .ref (Z.ad 4 v7.toInt.toNat)), (4, .int v30), (5, .int a37_5_13), (8, .int a178_8_135)]) hx hb dX11_arrive_241 hl (by decide) rfl (fun ls hl => ?_)
                                  obtain ⟨v175, ev175, fv175⟩ := inc_ex a178_8_135 (1) (1 : Int32) (by decide)
                                  have rv175 : rg (1) (8) v175 := (rg_add ev175 q143 kc_1 rfl).1
                                  have tv175 := (rg_add ev175 q143 kc_1 rfl).2
                                  have yv175 : (1 : Int32).toInt = 1 := by decide
                                  replace hW := (wfP_i (wfP_i (wfP_i (wfP_a hW v175) ev175) rv175) (w_iadd tv175 rfl (rg_i kc_1)))
                                  refine lv_iinc (v := v175) (lv' := [(8, .int v175), (7, .int v173), (0, .ref (Z.ad 11 i0)), (1, .int p1), (2, .ref (Z.ad 3 q2)), (3, .ref (Z.ad 4 v7.toInt.toNat)), (4, .int v30), (5, .int a37_5_13)]) hx hb dX11_arrive_243 hl (k := 7) rfl fv175 (by decide) rfl (fun ls hl => ?_)
                                  refine lv_goto (tgt := 178) hx hb dX11_arrive_246 (by decide) ?_
                                  exact ih136 _ (ms_up tv175 kc_1 q143 rfl rfl) v173 v175 Z g172 _ _ ls _ _ (mFr.tr (mFr.tr (mFr.tr hF136 hp155.1 rfl) hp169.1 rfl) hp172.1 rfl) (mFi.sub (mFi.sub (mFi.sub hI136 hi155 (mSub_eq 57 rfl (mSub_eq 58 rfl (mSub_eq 59 rfl (mSub_eq 60 rfl (mSub_eq 61 rfl (mSub_eq 62 rfl (mSub_eq 63 rfl (mSub_eq 64 rfl (mSub_eq 65 rfl mSub_nil)))))))))) hi169 (mSub_any 3 rfl (mSub_any 4 rfl (mSub_any 5 rfl (mSub_any 6 rfl (mSub_any 7 rfl (mSub_any 8 rfl (mSub_any 9 rfl (mSub_any 10 rfl (mSub_any 11 rfl (mSub_any 12 rfl (mSub_any 13 rfl (mSub_any 14 rfl (mSub_any 15 rfl (mSub_any 16 rfl (mSub_any 17 rfl (mSub_any 18 rfl (mSub_any 19 rfl (mSub_any 20 rfl (mSub_any 25 rfl (mSub_any 45 rfl (mSub_any 67 rfl (mSub_any 68 rfl (mSub_any 69 rfl (mSub_any 77 rfl (mSub_any 78 rfl (mSub_any 88 rfl (mSub_any 89 rfl (mSub_any 90 rfl mSub_nil))))))))))))))))))))))))))))) hi172 (mSub_any 33 rfl (mSub_any 34 rfl (mSub_eq 84 rfl (mSub_any 86 rfl (mSub_any 87 rfl mSub_nil)))))) xa (cL.mono L174 (by omega)) hzl hcs (cJ_fr hp169.2.1 hp172.1 rfl) (rg_w rv173 rfl) (rg_w rv175 rfl) hW (lv_sub hl [2, 3, 4, 5, 6, 7, 1, 0] rfl) rfl
                              · skip
                                replace hW := wfP_i (wfP_r hW) (i_eq c204_152 rfl (rg_i kc_1))
                                have ic204_152 := congrArg Int32.toInt c204_152
                                have y176 : (1 : Int32).toInt = 1 := by decide
                                have q177 : rg (1) (1) v150 := (rg_eq c204_152 rv150 kc_1).1
                                have uq177 : (1 : Int) ≤ v150.toInt ∧ v150.toInt ≤ 1 := q177
                                refine lv_iconst (v := 1) hx hb dX11_arrive_207 (by decide) ?_
                                refine lv_goto (tgt := 212) hx hb dX11_arrive_208 (by decide) ?_
                                refine c_ci (As := [.ref (Z.ad 34 0), .int a178_7_134, .int (1 : Int32)]) (rest := []) x hml L136 9 0 al148 rfl (d_ksread l (X + (10 * a37_5_13.toInt + 2 + a178_8_135.toInt)) g136 0 0 a178_7_134 (1 : Int32) ⟨by omega, by omega⟩ al148 al149 (rg_w q147 rfl) (rg_w kc_1 rfl) hW) (wk_V kd_X9_read kl_X11_163 ki_X9_read ks_X9_X9_read kn_X9) rfl ⟨rfl, rfl⟩ hd_ksread ⟨Nat.le_of_ble_eq_true rfl, Nat.le_of_ble_eq_true rfl⟩ rfl hl.1 rfl (lv_room (Nat.le_of_ble_eq_true rfl)) dX11_arrive_212 (fun v179 g178 H178 k178 hp178 L178 => ?_) hcs
                                obtain ⟨hW, hi178, hp178⟩ := hp178
                                replace hW := wfP_i hW ⟨hi178, hp178⟩
                                have rv179 : rg (0) (1) v179 := hp178.2.1
                                have uv179 : (0 : Int) ≤ v179.toInt ∧ v179.toInt ≤ 1 := rv179
                                have hw180 := hp178.2.2
                                refine lv_if_eq (tgt := 230) hx hb dX11_arrive_215 (by decide) (fun c215_181 => ?_) (fun c215_181 => ?_)
                                · skip
                                  replace hW := wfP_i (wfP_l hW) (i_eq c215_181 rfl (rg_i kc_0))
                                  have ic215_181 := congrArg Int32.toInt c215_181
                                  have y182 : (0 : Int32).toInt = 0 := by decide
                                  have q183 : rg (0) (0) v179 := (rg_eq c215_181 rv179 kc_0).1
                                  have uq183 : (0 : Int) ≤ v179.toInt ∧ v179.toInt ≤ 0 := q183
                                  refine lv_aload_n hx hb dX11_arrive_230 rfl (lv_at hl 3 rfl) ?_
                                  have al184 : Z.al 5 v7.toInt.toNat := hz.2 5 v7.toInt.toNat (show v7.toInt.toNat < 2 * Z.n from (by omega))
                                  refine c_getr (a := Z.ad 5 v7.toInt.toNat) x L178 4 v7.toInt.toNat 1 al139 rfl rfl (wk_in kf_X11_85) dX11_arrive_231 ?_
                                  refine lv_aload_n hx hb dX11_arrive_234 rfl (lv_at hl 0 rfl) ?_
                                  refine c_getr (a := Z.ad 34 0) x L178 11 i0 6 al137 rfl rfl (wk_in kf_X11_16) dX11_arrive_235 ?_
                                  refine c_ci (As := [.ref (Z.ad 34 0)]) (rest := []) x hml L178 5 v7.toInt.toNat al184 rfl (d_ktakeNext l (X + (10 * a37_5_13.toInt + 2 + a178_8_135.toInt)) g178 v7.toInt.toNat 0 ⟨by omega, by omega⟩ (show v7.toInt.toNat < 2 * Z.n from (by omega)) al149 hW) (wk_V kd_X5_takeNext kl_X11_159 ki_X5_takeNext ks_X5_X5_takeNext kn_X5) rfl ⟨rfl, rfl⟩ hd_ktakeNext ⟨Nat.le_of_ble_eq_true rfl, Nat.le_of_ble_eq_true rfl⟩ rfl hl.1 rfl (lv_room (Nat.le_of_ble_eq_true rfl)) dX11_arrive_238 (fun v186 g185 H185 k185 hp185 L185 => ?_) hcs
                                  obtain ⟨hW, hi185, hp185⟩ := hp185
                                  replace hW := wfP_i hW ⟨hi185, hp185⟩
                                  have rv186 : rg (0) (60) v186 := hp185.2.1
                                  have uv186 : (0 : Int) ≤ v186.toInt ∧ v186.toInt ≤ 60 := rv186
                                  have L187 := cL.mono L185 (show _ ≤ (X + ((10 * a37_5_13.toInt + 2 + a178_8_135.toInt) + 1)) by omega)
                                  refine lv_istore (lv' := [(7, .int v186), (0, .ref (Z.ad 11 i0)), (1, .int p1), (2, .ref (Z.ad 3 q2)), (3, .ref (Z.ad 4 v7.toInt.toNat)), (4, .int v30), (5, .int a37_5_13), (8, .int a178_8_135)]) hx hb dX11_arrive_241 hl (by decide) rfl (fun ls hl => ?_)
                                  obtain ⟨v188, ev188, fv188⟩ := inc_ex a178_8_135 (1) (1 : Int32) (by decide)
                                  have rv188 : rg (1) (8) v188 := (rg_add ev188 q143 kc_1 rfl).1
                                  have tv188 := (rg_add ev188 q143 kc_1 rfl).2
                                  have yv188 : (1 : Int32).toInt = 1 := by decide
                                  replace hW := (wfP_i (wfP_i (wfP_i (wfP_a hW v188) ev188) rv188) (w_iadd tv188 rfl (rg_i kc_1)))
                                  refine lv_iinc (v := v188) (lv' := [(8, .int v188), (7, .int v186), (0, .ref (Z.ad 11 i0)), (1, .int p1), (2, .ref (Z.ad 3 q2)), (3, .ref (Z.ad 4 v7.toInt.toNat)), (4, .int v30), (5, .int a37_5_13)]) hx hb dX11_arrive_243 hl (k := 7) rfl fv188 (by decide) rfl (fun ls hl => ?_)
                                  refine lv_goto (tgt := 178) hx hb dX11_arrive_246 (by decide) ?_
                                  exact ih136 _ (ms_up tv188 kc_1 q143 rfl rfl) v186 v188 Z g185 _ _ ls _ _ (mFr.tr (mFr.tr hF136 hp178.1 rfl) hp185.1 rfl) (mFi.sub (mFi.sub hI136 hi178 (mSub_eq 57 rfl (mSub_eq 58 rfl (mSub_eq 59 rfl (mSub_eq 60 rfl (mSub_eq 61 rfl (mSub_eq 62 rfl (mSub_eq 63 rfl (mSub_eq 64 rfl (mSub_eq 65 rfl mSub_nil)))))))))) hi185 (mSub_any 33 rfl (mSub_any 34 rfl (mSub_eq 84 rfl (mSub_any 86 rfl (mSub_any 87 rfl mSub_nil)))))) xa (cL.mono L187 (by omega)) hzl hcs (cJ_fr (cJ_fr hJ136 hp178.1 rfl) hp185.1 rfl) (rg_w rv186 rfl) (rg_w rv188 rfl) hW (lv_sub hl [2, 3, 4, 5, 6, 7, 1, 0] rfl) rfl
                                · skip
                                  replace hW := wfP_i (wfP_r hW) (i_ne c215_181 rfl (rg_i kc_0))
                                  have ic215_181 : v179.toInt ≠ (0 : Int32).toInt := fun z => c215_181 (Int32.toInt_inj.mp z)
                                  have y189 : (0 : Int32).toInt = 0 := by decide
                                  have q190 : rg (1) (1) v179 := rg_neL c215_181 rv179 kc_0
                                  have uq190 : (1 : Int) ≤ v179.toInt ∧ v179.toInt ≤ 1 := q190
                                  refine lv_aload_n hx hb dX11_arrive_218 rfl (lv_at hl 3 rfl) ?_
                                  refine lv_aload_n hx hb dX11_arrive_219 rfl (lv_at hl 0 rfl) ?_
                                  refine c_getr (a := Z.ad 9 0) x L178 11 i0 5 al137 rfl rfl (wk_in kf_X11_12) dX11_arrive_220 ?_
                                  refine lv_aload_n hx hb dX11_arrive_223 rfl (lv_at hl 0 rfl) ?_
                                  refine c_geti x L178 11 i0 10 362 al137 rfl rfl (wk_in kf_X11_82) dX11_arrive_224 (fun v191 ev191 wv191 => ?_)
                                  have rv191 : rg (-2147483648) (2147483647) v191 := rg_any v191
                                  replace hW := (wfP_i (wfP_i (wfP_a hW v191) ev191) rv191)
                                  have uv191 : (-2147483648 : Int) ≤ v191.toInt ∧ v191.toInt ≤ 2147483647 := rv191
                                  have sv191 : v191.toInt = (g 362 i0).toInt := congrArg Int32.toInt (ev191.trans (congrFun ((show mFr [0, 1, 2, 32, 33, 34, 35, 36, 37, 38, 39, 40, 41, 42, 43, 44, 45, 46, 47, 48, 49, 67, 108, 109, 111, 135, 136, 164, 165, 166, 167, 168, 169, 170, 171, 172, 173, 174, 175, 176, 177, 178, 179, 180, 197, 198, 225, 226, 227, 228, 229, 230, 231, 232, 233, 234, 235, 288, 289, 290, 291, 292, 293, 294, 295, 296, 323, 384, 385, 386, 421, 422, 512, 544, 576, 768, 800, 832, 864, 928, 960, 992, 1024, 1056, 1088, 1248, 1280, 1344, 1536, 1728, 1729] g g178 from (mFr.tr (mFr.tr (mFr.tr (mFr.tr (mFr.tr (mFr.tr (mFr.tr (mFr.tr mFr.rf hF14 rfl) hp28.1 rfl) hp38.1 rfl) hp49.1 rfl) hp129.1 rfl) hp131.1 rfl) hF136 rfl) hp178.1 rfl)).at 362 rfl) _))
                                  obtain ⟨n192_0, ho192, hW⟩ := wfP_e1 hW
                                  have hz0192 := hzl.2.2.2.1
                                  have hz1192 := hzl.2.2.2.2
                                  refine k_callv xa L178 (k_runU (x := ⟨"CellSwitch$Side", "came", "(LCellSwitch$Signal;I)V"⟩) (As := [.ref (Z.ad 9 0), .int v191]) (rest := []) ⟨hx, hb, hml, x.2.2.2.2.1, x.2.2.1⟩ (d_kcame_4 l (X + (10 * a37_5_13.toInt + 2 + a178_8_135.toInt)) g178 v7.toInt.toNat 0 v191 _ n192_0 ⟨by omega, by omega⟩ (cJ_fr hJ136 hp178.1 rfl) (by omega) (show v7.toInt.toNat < Z.n from (by omega)) al148 (hw180 (by omega)) hW) (va_cwU 2 x.2.2.1 (wk_U (owner := "CellSwitch$Side") kd_X8_came kl_X11_167 km_CellSwitchSide_CellSwitchSide_came ks_X4_CellSwitchSide_X8_came ki_X8_came kn_X8) rfl rfl rfl rfl (by decide +kernel) ⟨Nat.le_of_ble_eq_true rfl, Nat.le_of_ble_eq_true rfl⟩) ⟨cPreA.blind, c_recv x L178 al139 rfl, fun U hU hW => k_pre xa L178 U hU hW⟩ rfl rfl hl.1 rfl (lv_room (Nat.le_of_ble_eq_true rfl)) dX11_arrive_227 ⟨show c136 + 2 ≤ a by omega, show l136 + (18 + n192_0) ≤ b by omega⟩) (fun  Z g192 H192 k192 kc192 kn192 hk192 hn192 hp192 hz192 xa L192 => ?_)
                                  obtain ⟨hW, hi192, hp192⟩ := hp192
                                  replace hW := wfP_i (wfP_a (wfP_i hW ⟨hi192, hp192⟩) Z) rfl
                                  have hww192 := hp192.2.2.1
                                  have ea192_0 := hz192.2.2.1 11 i0 al137 (by omega)
                                  have ea192_1 := hz192.2.2.1 3 q2 al138 (by omega)
                                  have ea192_2 := hz192.2.2.1 4 v7.toInt.toNat al139 (by omega)
                                  rw [← ea192_0] at hl
                                  rw [← ea192_1] at hl
                                  rw [← ea192_2] at hl
                                  have al192_0 := hz192.2.1 11 i0 al137
                                  have al192_1 := hz192.2.1 3 q2 al138
                                  have al192_2 := hz192.2.1 4 v7.toInt.toNat al139
                                  have hZn192 := hz192.1
                                  have x := xa.1
                                  have hz := x.2.2.2.2.2.2.2.1
                                  have hzn := hz.1
                                  have hzl := cZl.tr hzl hz192
                                  have hcs : c136 + kc192 ≤ a ∧ l136 + kn192 ≤ b := by omega
                                  refine lv_aload_n hx hb dX11_arrive_230 rfl (lv_at hl 3 rfl) ?_
                                  have al193 : Z.al 5 v7.toInt.toNat := hz.2 5 v7.toInt.toNat (show v7.toInt.toNat < 2 * Z.n from (by omega))
                                  refine c_getr (a := Z.ad 5 v7.toInt.toNat) x L192 4 v7.toInt.toNat 1 al192_2 rfl rfl (wk_in kf_X11_85) dX11_arrive_231 ?_
                                  refine lv_aload_n hx hb dX11_arrive_234 rfl (lv_at hl 0 rfl) ?_
                                  have al194 : Z.al 34 0 := hz.2 34 0 (show 0 < 1 from (by omega))
                                  refine c_getr (a := Z.ad 34 0) x L192 11 i0 6 al192_0 rfl rfl (wk_in kf_X11_16) dX11_arrive_235 ?_
                                  refine c_ci (As := [.ref (Z.ad 34 0)]) (rest := []) x hml L192 5 v7.toInt.toNat al193 rfl (d_ktakeNext l (X + (10 * a37_5_13.toInt + 2 + a178_8_135.toInt)) g192 v7.toInt.toNat 0 ⟨by omega, by omega⟩ (show v7.toInt.toNat < 2 * Z.n from (by omega)) al194 hW) (wk_V kd_X5_takeNext kl_X11_159 ki_X5_takeNext ks_X5_X5_takeNext kn_X5) rfl ⟨rfl, rfl⟩ hd_ktakeNext ⟨Nat.le_of_ble_eq_true rfl, Nat.le_of_ble_eq_true rfl⟩ rfl hl.1 rfl (lv_room (Nat.le_of_ble_eq_true rfl)) dX11_arrive_238 (fun v196 g195 H195 k195 hp195 L195 => ?_) hcs
                                  obtain ⟨hW, hi195, hp195⟩ := hp195
                                  replace hW := wfP_i hW ⟨hi195, hp195⟩
                                  have rv196 : rg (0) (60) v196 := hp195.2.1
                                  have uv196 : (0 : Int) ≤ v196.toInt ∧ v196.toInt ≤ 60 := rv196
                                  have L197 := cL.mono L195 (show _ ≤ (X + ((10 * a37_5_13.toInt + 2 + a178_8_135.toInt) + 1)) by omega)
                                  refine lv_istore (lv' := [(7, .int v196), (0, .ref (Z.ad 11 i0)), (1, .int p1), (2, .ref (Z.ad 3 q2)), (3, .ref (Z.ad 4 v7.toInt.toNat)), (4, .int v30), (5, .int a37_5_13), (8, .int a178_8_135)]) hx hb dX11_arrive_241 hl (by decide) rfl (fun ls hl => ?_)
                                  obtain ⟨v198, ev198, fv198⟩ := inc_ex a178_8_135 (1) (1 : Int32) (by decide)
                                  have rv198 : rg (1) (8) v198 := (rg_add ev198 q143 kc_1 rfl).1
                                  have tv198 := (rg_add ev198 q143 kc_1 rfl).2
                                  have yv198 : (1 : Int32).toInt = 1 := by decide
                                  replace hW := (wfP_i (wfP_i (wfP_i (wfP_a hW v198) ev198) rv198) (w_iadd tv198 rfl (rg_i kc_1)))
                                  refine lv_iinc (v := v198) (lv' := [(8, .int v198), (7, .int v196), (0, .ref (Z.ad 11 i0)), (1, .int p1), (2, .ref (Z.ad 3 q2)), (3, .ref (Z.ad 4 v7.toInt.toNat)), (4, .int v30), (5, .int a37_5_13)]) hx hb dX11_arrive_243 hl (k := 7) rfl fv198 (by decide) rfl (fun ls hl => ?_)
                                  refine lv_goto (tgt := 178) hx hb dX11_arrive_246 (by decide) ?_
                                  exact ih136 _ (ms_up tv198 kc_1 q143 rfl rfl) v196 v198 Z g195 _ _ ls _ _ (mFr.tr (mFr.tr (mFr.tr hF136 hp178.1 rfl) hp192.1 rfl) hp195.1 rfl) (mFi.sub (mFi.sub (mFi.sub hI136 hi178 (mSub_eq 57 rfl (mSub_eq 58 rfl (mSub_eq 59 rfl (mSub_eq 60 rfl (mSub_eq 61 rfl (mSub_eq 62 rfl (mSub_eq 63 rfl (mSub_eq 64 rfl (mSub_eq 65 rfl mSub_nil)))))))))) hi192 (mSub_any 3 rfl (mSub_any 4 rfl (mSub_any 5 rfl (mSub_any 6 rfl (mSub_any 7 rfl (mSub_any 8 rfl (mSub_any 9 rfl (mSub_any 10 rfl (mSub_any 11 rfl (mSub_any 12 rfl (mSub_any 13 rfl (mSub_any 14 rfl (mSub_any 15 rfl (mSub_any 16 rfl (mSub_any 17 rfl (mSub_any 18 rfl (mSub_any 19 rfl (mSub_any 20 rfl (mSub_any 25 rfl (mSub_any 45 rfl (mSub_any 67 rfl (mSub_any 68 rfl (mSub_any 69 rfl (mSub_any 77 rfl (mSub_any 78 rfl (mSub_any 88 rfl (mSub_any 89 rfl (mSub_any 90 rfl mSub_nil))))))))))))))))))))))))))))) hi195 (mSub_any 33 rfl (mSub_any 34 rfl (mSub_eq 84 rfl (mSub_any 86 rfl (mSub_any 87 rfl mSub_nil)))))) xa (cL.mono L197 (by omega)) hzl hcs (cJ_fr hp192.2.1 hp195.1 rfl) (rg_w rv196 rfl) (rg_w rv198 rfl) hW (lv_sub hl [2, 3, 4, 5, 6, 7, 1, 0] rfl) rfl
                      have y199 : (0 : Int32).toInt = 0 := by decide
                      exact j178_136 _ v132 (0 : Int32) Z g131 _ _ ls _ _ mFr.rf mFi.rf xa (cL.mono L133 (by omega)) hzl hcs (cJ_fr (cJ_fr (cJ_fr hp38.2.2.1 hp49.1 rfl) hp129.1 rfl) hp131.1 rfl) (rg_w rv132 rfl) (rg_w kc_0 rfl) hW (lv_sub hl [4, 5, 6, 7, 3, 8, 1, 0] rfl) rfl
                  · skip
                    replace hW := wfP_i (wfP_r hW) (i_eq c128_51 rfl (rg_i kc_1))
                    have ic128_51 := congrArg Int32.toInt c128_51
                    have y200 : (1 : Int32).toInt = 1 := by decide
                    have q201 : rg (1) (1) v50 := (rg_eq c128_51 rv50 kc_1).1
                    have uq201 : (1 : Int) ≤ v50.toInt ∧ v50.toInt ≤ 1 := q201
                    refine lv_aload_n hx hb dX11_arrive_131 rfl (lv_at hl 5 rfl) ?_
                    refine lv_aload_n hx hb dX11_arrive_132 rfl (lv_at hl 2 rfl) ?_
                    refine c_geti x L49 11 i0 10 362 al38_0 rfl rfl (wk_in kf_X11_82) dX11_arrive_133 (fun v202 ev202 wv202 => ?_)
                    refine m_top (((mm_fr ev48 hp49.1 rfl)).trans ev202.symm) ?_
                    refine c_cvU (n := 1) (owner := "CellSwitch$Side") (x0 := ⟨"CellSwitch$Side", "allOver", "(I)V"⟩) (As := [.int v48]) (rest := []) x hml L49 4 v7.toInt.toNat al38_2 rfl (d_kallOver_4 l (X + ((10 * a37_5_13.toInt) + 1)) g49 v7.toInt.toNat v48 ⟨by omega, by omega⟩ (cJ_fr hp38.2.2.1 hp49.1 rfl) (show v7.toInt.toNat < Z.n from (by omega)) hW) (wk_U kd_X8_allOver kl_X11_93 km_CellSwitchSide_CellSwitchSide_allOver ks_X4_CellSwitchSide_X8_allOver ki_X8_allOver kn_X8) rfl ⟨rfl, rfl⟩ rfl (by decide +kernel) ⟨Nat.le_of_ble_eq_true rfl, Nat.le_of_ble_eq_true rfl⟩ rfl hl.1 rfl (lv_room (Nat.le_of_ble_eq_true rfl)) dX11_arrive_136 (fun  g203 H203 k203 hp203 L203 => ?_) hcs
                    obtain ⟨hW, hi203, hp203⟩ := hp203
                    replace hW := wfP_i hW ⟨hi203, hp203⟩
                    refine lv_goto (tgt := 162) hx hb dX11_arrive_139 (by decide) ?_
                    refine lv_aload_n hx hb dX11_arrive_162 rfl (lv_at hl 5 rfl) ?_
                    refine c_getr (a := Z.ad 5 v7.toInt.toNat) x L203 4 v7.toInt.toNat 1 al38_2 rfl rfl (wk_in kf_X11_85) dX11_arrive_163 ?_
                    refine lv_aload_n hx hb dX11_arrive_166 rfl (lv_at hl 2 rfl) ?_
                    have al204 : Z.al 34 0 := hz.2 34 0 (show 0 < 1 from (by omega))
                    refine c_getr (a := Z.ad 34 0) x L203 11 i0 6 al38_0 rfl rfl (wk_in kf_X11_16) dX11_arrive_167 ?_
                    refine c_ci (As := [.ref (Z.ad 34 0)]) (rest := []) x hml L203 5 v7.toInt.toNat al44 rfl (d_ktakeNext l (X + ((10 * a37_5_13.toInt) + 1)) g203 v7.toInt.toNat 0 ⟨by omega, by omega⟩ (show v7.toInt.toNat < 2 * Z.n from (by omega)) al204 hW) (wk_V kd_X5_takeNext kl_X11_159 ki_X5_takeNext ks_X5_X5_takeNext kn_X5) rfl ⟨rfl, rfl⟩ hd_ktakeNext ⟨Nat.le_of_ble_eq_true rfl, Nat.le_of_ble_eq_true rfl⟩ rfl hl.1 rfl (lv_room (Nat.le_of_ble_eq_true rfl)) dX11_arrive_170 (fun v206 g205 H205 k205 hp205 L205 => ?_) hcs
                    obtain ⟨hW, hi205, hp205⟩ := hp205
                    replace hW := wfP_i hW ⟨hi205, hp205⟩
                    have rv206 : rg (0) (60) v206 := hp205.2.1
                    have uv206 : (0 : Int) ≤ v206.toInt ∧ v206.toInt ≤ 60 := rv206
                    have L207 := cL.mono L205 (show _ ≤ (X + (((10 * a37_5_13.toInt) + 1) + 1)) by omega)
                    refine lv_istore (lv' := [(7, .int v206), (6, .int v50), (4, .int v30), (0, .ref (Z.ad 11 i0)), (1, .int p1), (2, .ref (Z.ad 3 q2)), (3, .ref (Z.ad 4 v7.toInt.toNat)), (5, .int a37_5_13)]) hx hb dX11_arrive_173 hl (by decide) rfl (fun ls hl => ?_)
                    refine lv_iconst (v := 0) hx hb dX11_arrive_175 (by decide) ?_
                    refine lv_istore (lv' := [(8, .int (0 : Int32)), (7, .int v206), (6, .int v50), (4, .int v30), (0, .ref (Z.ad 11 i0)), (1, .int p1), (2, .ref (Z.ad 3 q2)), (3, .ref (Z.ad 4 v7.toInt.toNat)), (5, .int a37_5_13)]) hx hb dX11_arrive_176 hl (by decide) rfl (fun ls hl => ?_)
                    obtain ⟨P210, hP210, hW⟩ := wfP_ex hW
                    have j178_210 : ∀ (n : Nat) (a178_7_208 a178_8_209 : Int32) (Z : cZ) (g210 : mSt) (H210 : Heap) (k210 : List Loc) (ls : Array Slot) (c210 l210 : Nat), mFr [32, 33, 34, 35, 36, 37, 38, 39, 40, 41, 42, 43, 44, 45, 46, 47, 48, 49, 135, 170, 171, 198, 288, 289, 290, 291, 292, 293, 294, 295, 296, 323, 384, 385, 386, 832, 864, 1088, 1280, 1344, 1536, 1728, 1729] g205 g210 → mFi (im_karrive i0 p1 q2) g205 g210 → cXA p c cX11_arrive s args (wk (Cond.code yX11_arrive cX11_arrive 9 none)) m G Z A RX11 H0 → cL G Z A H0 (X + (10 * a37_5_13.toInt + 2 + a178_8_209.toInt)) g210 H210 k210 → cZl Z0 Z c210 l210 → (c210 ≤ a ∧ l210 ≤ b) → cJ Z g210 → rg (0) (60) a178_7_208 → rg (0) (8) a178_8_209 → wfP (P210 a178_7_208 a178_8_209 Z g210) → lv_has ls 9 [(0, .ref (Z.ad 11 i0)), (1, .int p1), (2, .ref (Z.ad 3 q2)), (3, .ref (Z.ad 4 v7.toInt.toNat)), (4, .int v30), (5, .int a37_5_13), (7, .int a178_7_208), (8, .int a178_8_209)] → ((8 : Int) - a178_8_209.toInt).toNat = n → W p l e (rm_karrive a b) s m args below meth c H210 k210 c210 l210 Q (F0 m 178 ls []) := by
                      intro n
                      induction n using Nat.strongRecOn with
                      | _ n ih210 =>
                        intro a178_7_208 a178_8_209 Z g210 H210 k210 ls c210 l210 hF210 hI210 xa L210 hzl hcs hJ210 ra178_7_208 ra178_8_209 hW hl hn210
                        subst hn210
                        have x := xa.1
                        have hz := x.2.2.2.2.2.2.2.1
                        have hzn := hz.1
                        have hZn210 := hzl.1
                        replace hW := wfP_i (wfP_i (wfP_i (wfP_i (wfP_i (wfP_i (wfP_i (wfP_a (wfP_a (wfP_a (wfP_a hP210 a178_7_208) a178_8_209) Z) g210) hF210) hI210) hJ210) hzl.1) ra178_7_208) ra178_8_209) hW
                        have ua178_7_208 : (0 : Int) ≤ a178_7_208.toInt ∧ a178_7_208.toInt ≤ 60 := ra178_7_208
                        have ua178_8_209 : (0 : Int) ≤ a178_8_209.toInt ∧ a178_8_209.toInt ≤ 8 := ra178_8_209
                        have al211 := hzl.2.1 11 i0 hal0
                        have al212 := hzl.2.1 3 q2 hq2
                        have al213 : Z.al 4 v7.toInt.toNat := hz.2 4 v7.toInt.toNat (show v7.toInt.toNat < Z.n from (by omega))
                        refine lv_iload hx hb dX11_arrive_178 (lv_at hl 7 rfl) ?_
                        refine lv_bipush (v := 8) hx hb dX11_arrive_180 (by decide) ?_
                        refine lv_icmp_ge (tgt := 249) hx hb dX11_arrive_182 (by decide) (fun c182_214 => ?_) (fun c182_214 => ?_)
                        · skip
                          replace hW := wfP_i (wfP_l hW) (i_le c182_214 (rg_i kc_8) rfl)
                          have ic182_214 := Int32.le_iff_toInt_le.mp c182_214
                          have q215 : rg (8) (8) a178_8_209 := (rg_le c182_214 kc_8 ra178_8_209).2
                          have uq215 : (8 : Int) ≤ a178_8_209.toInt ∧ a178_8_209.toInt ≤ 8 := q215
                          obtain ⟨v216, ev216, fv216⟩ := inc_ex a37_5_13 (1) (1 : Int32) (by decide)
                          have rv216 : rg (1) (212) v216 := (rg_add ev216 q20 kc_1 rfl).1
                          have tv216 := (rg_add ev216 q20 kc_1 rfl).2
                          have yv216 : (1 : Int32).toInt = 1 := by decide
                          replace hW := (wfP_i (wfP_i (wfP_i (wfP_a hW v216) ev216) rv216) (w_iadd tv216 rfl (rg_i kc_1)))
                          refine lv_iinc (v := v216) (lv' := [(5, .int v216), (0, .ref (Z.ad 11 i0)), (1, .int p1), (2, .ref (Z.ad 3 q2)), (3, .ref (Z.ad 4 v7.toInt.toNat)), (4, .int v30), (7, .int a178_7_208), (8, .int a178_8_209)]) hx hb dX11_arrive_249 hl (k := 5) rfl fv216 (by decide) rfl (fun ls hl => ?_)
                          refine lv_goto (tgt := 37) hx hb dX11_arrive_252 (by decide) ?_
                          exact ih14 _ (ms_up tv216 kc_1 q20 rfl rfl) v30 v216 Z g210 _ _ ls _ _ (mFr.tr (mFr.tr (mFr.tr (mFr.tr (mFr.tr (mFr.tr hF14 hp28.1 rfl) hp38.1 rfl) hp49.1 rfl) hp203.1 rfl) hp205.1 rfl) hF210 rfl) (mFi.tr (mFi.sub (mFi.sub (mFi.sub (mFi.sub (mFi.sub hI14 hi28 (mSub_eq 46 rfl (mSub_eq 47 rfl (mSub_eq 48 rfl (mSub_eq 49 rfl (mSub_eq 50 rfl (mSub_eq 51 rfl (mSub_eq 52 rfl (mSub_eq 53 rfl (mSub_eq 54 rfl (mSub_eq 55 rfl (mSub_eq 56 rfl (mSub_eq 76 rfl mSub_nil))))))))))))) hi38 (mSub_any 0 rfl (mSub_any 1 rfl (mSub_any 2 rfl (mSub_any 17 rfl (mSub_any 21 rfl (mSub_any 22 rfl (mSub_eq 23 rfl (mSub_any 26 rfl (mSub_any 72 rfl (mSub_any 73 rfl (mSub_any 74 rfl (mSub_any 80 rfl (mSub_any 81 rfl (mSub_any 82 rfl (mSub_any 83 rfl mSub_nil)))))))))))))))) hi49 (mSub_any 21 rfl (mSub_any 22 rfl (mSub_any 24 rfl (mSub_any 27 rfl (mSub_any 28 rfl (mSub_any 29 rfl (mSub_any 30 rfl (mSub_any 31 rfl (mSub_any 32 rfl (mSub_any 33 rfl (mSub_any 34 rfl (mSub_any 35 rfl (mSub_any 37 rfl (mSub_any 38 rfl (mSub_any 41 rfl (mSub_any 42 rfl (mSub_any 43 rfl (mSub_any 44 rfl (mSub_any 45 rfl (mSub_any 70 rfl (mSub_any 70 rfl (mSub_any 71 rfl (mSub_any 71 rfl (mSub_any 73 rfl (mSub_any 74 rfl (mSub_any 75 rfl (mSub_any 78 rfl (mSub_any 79 rfl (mSub_any 85 rfl (mSub_any 86 rfl (mSub_any 86 rfl (mSub_any 87 rfl (mSub_any 87 rfl mSub_nil)))))))))))))))))))))))))))))))))) hi203 (mSub_any 7 rfl (mSub_any 11 rfl (mSub_any 12 rfl (mSub_any 13 rfl (mSub_any 15 rfl (mSub_any 16 rfl (mSub_any 17 rfl (mSub_any 19 rfl (mSub_any 45 rfl (mSub_any 77 rfl (mSub_any 78 rfl mSub_nil)))))))))))) hi205 (mSub_any 33 rfl (mSub_any 34 rfl (mSub_eq 84 rfl (mSub_any 86 rfl (mSub_any 87 rfl mSub_nil)))))) hI210) xa (cL.mono L210 (by omega)) hzl hcs hJ210 (rg_w rv30 rfl) (rg_w rv216 rfl) hW (lv_sub hl [1, 2, 3, 4, 5, 0] rfl) rfl
                        · skip
                          replace hW := wfP_i (wfP_r hW) (i_lt (rg_nle c182_214) rfl (rg_i kc_8))
                          have ic182_214 := Int32.lt_iff_toInt_lt.mp (rg_nle c182_214)
                          have q217 : rg (0) (7) a178_8_209 := (rg_lt (rg_nle c182_214) ra178_8_209 kc_8).1
                          have uq217 : (0 : Int) ≤ a178_8_209.toInt ∧ a178_8_209.toInt ≤ 7 := q217
                          refine lv_iload hx hb dX11_arrive_185 (lv_at hl 6 rfl) ?_
                          refine lv_if_le (tgt := 249) hx hb dX11_arrive_187 (by decide) (fun c187_218 => ?_) (fun c187_218 => ?_)
                          · skip
                            replace hW := wfP_i (wfP_l hW) (i_le c187_218 rfl (rg_i kc_0))
                            have ic187_218 := Int32.le_iff_toInt_le.mp c187_218
                            have q219 : rg (0) (0) a178_7_208 := (rg_le c187_218 ra178_7_208 kc_0).1
                            have uq219 : (0 : Int) ≤ a178_7_208.toInt ∧ a178_7_208.toInt ≤ 0 := q219
                            obtain ⟨v220, ev220, fv220⟩ := inc_ex a37_5_13 (1) (1 : Int32) (by decide)
                            have rv220 : rg (1) (212) v220 := (rg_add ev220 q20 kc_1 rfl).1
                            have tv220 := (rg_add ev220 q20 kc_1 rfl).2
                            have yv220 : (1 : Int32).toInt = 1 := by decide
                            replace hW := (wfP_i (wfP_i (wfP_i (wfP_a hW v220) ev220) rv220) (w_iadd tv220 rfl (rg_i kc_1)))
                            refine lv_iinc (v := v220) (lv' := [(5, .int v220), (0, .ref (Z.ad 11 i0)), (1, .int p1), (2, .ref (Z.ad 3 q2)), (3, .ref (Z.ad 4 v7.toInt.toNat)), (4, .int v30), (7, .int a178_7_208), (8, .int a178_8_209)]) hx hb dX11_arrive_249 hl (k := 5) rfl fv220 (by decide) rfl (fun ls hl => ?_)
                            refine lv_goto (tgt := 37) hx hb dX11_arrive_252 (by decide) ?_
                            exact ih14 _ (ms_up tv220 kc_1 q20 rfl rfl) v30 v220 Z g210 _ _ ls _ _ (mFr.tr (mFr.tr (mFr.tr (mFr.tr (mFr.tr (mFr.tr hF14 hp28.1 rfl) hp38.1 rfl) hp49.1 rfl) hp203.1 rfl) hp205.1 rfl) hF210 rfl) (mFi.tr (mFi.sub (mFi.sub (mFi.sub (mFi.sub (mFi.sub hI14 hi28 (mSub_eq 46 rfl (mSub_eq 47 rfl (mSub_eq 48 rfl (mSub_eq 49 rfl (mSub_eq 50 rfl (mSub_eq 51 rfl (mSub_eq 52 rfl (mSub_eq 53 rfl (mSub_eq 54 rfl (mSub_eq 55 rfl (mSub_eq 56 rfl (mSub_eq 76 rfl mSub_nil))))))))))))) hi38 (mSub_any 0 rfl (mSub_any 1 rfl (mSub_any 2 rfl (mSub_any 17 rfl (mSub_any 21 rfl (mSub_any 22 rfl (mSub_eq 23 rfl (mSub_any 26 rfl (mSub_any 72 rfl (mSub_any 73 rfl (mSub_any 74 rfl (mSub_any 80 rfl (mSub_any 81 rfl (mSub_any 82 rfl (mSub_any 83 rfl mSub_nil)))))))))))))))) hi49 (mSub_any 21 rfl (mSub_any 22 rfl (mSub_any 24 rfl (mSub_any 27 rfl (mSub_any 28 rfl (mSub_any 29 rfl (mSub_any 30 rfl (mSub_any 31 rfl (mSub_any 32 rfl (mSub_any 33 rfl (mSub_any 34 rfl (mSub_any 35 rfl (mSub_any 37 rfl (mSub_any 38 rfl (mSub_any 41 rfl (mSub_any 42 rfl (mSub_any 43 rfl (mSub_any 44 rfl (mSub_any 45 rfl (mSub_any 70 rfl (mSub_any 70 rfl (mSub_any 71 rfl (mSub_any 71 rfl (mSub_any 73 rfl (mSub_any 74 rfl (mSub_any 75 rfl (mSub_any 78 rfl (mSub_any 79 rfl (mSub_any 85 rfl (mSub_any 86 rfl (mSub_any 86 rfl (mSub_any 87 rfl (mSub_any 87 rfl mSub_nil)))))))))))))))))))))))))))))))))) hi203 (mSub_any 7 rfl (mSub_any 11 rfl (mSub_any 12 rfl (mSub_any 13 rfl (mSub_any 15 rfl (mSub_any 16 rfl (mSub_any 17 rfl (mSub_any 19 rfl (mSub_any 45 rfl (mSub_any 77 rfl (mSub_any 78 rfl mSub_nil)))))))))))) hi205 (mSub_any 33 rfl (mSub_any 34 rfl (mSub_eq 84 rfl (mSub_any 86 rfl (mSub_any 87 rfl mSub_nil)))))) hI210) xa (cL.mono L210 (by omega)) hzl hcs hJ210 (rg_w rv30 rfl) (rg_w rv220 rfl) hW (lv_sub hl [1, 2, 3, 4, 5, 0] rfl) rfl
                          · skip
                            replace hW := wfP_i (wfP_r hW) (i_lt (rg_nle c187_218) (rg_i kc_0) rfl)
                            have ic187_218 := Int32.lt_iff_toInt_lt.mp (rg_nle c187_218)
                            have q221 : rg (1) (60) a178_7_208 := (rg_lt (rg_nle c187_218) kc_0 ra178_7_208).2
                            have uq221 : (1 : Int) ≤ a178_7_208.toInt ∧ a178_7_208.toInt ≤ 60 := q221
                            refine lv_aload_n hx hb dX11_arrive_190 rfl (lv_at hl 0 rfl) ?_
                            have al222 : Z.al 9 0 := hz.2 9 0 (show 0 < 1 from (by omega))
                            refine c_getr (a := Z.ad 9 0) x L210 11 i0 5 al211 rfl rfl (wk_in kf_X11_12) dX11_arrive_191 ?_
                            refine lv_aload_n hx hb dX11_arrive_194 rfl (lv_at hl 0 rfl) ?_
                            have al223 : Z.al 34 0 := hz.2 34 0 (show 0 < 1 from (by omega))
                            refine c_getr (a := Z.ad 34 0) x L210 11 i0 6 al211 rfl rfl (wk_in kf_X11_16) dX11_arrive_195 ?_
                            refine lv_iload hx hb dX11_arrive_198 (lv_at hl 6 rfl) ?_
                            refine lv_iload_n hx hb dX11_arrive_200 rfl (lv_at hl 1 rfl) ?_
                            refine lv_iconst (v := 2) hx hb dX11_arrive_201 (by decide) ?_
                            refine lv_irem hx hb dX11_arrive_202 (by decide) ?_
                            refine lv_topi (fun v224 ev224 => ?_)
                            have rv224 : rg (0) (1) v224 := (rg_rem ev224 rp1 kc_2 rfl).1
                            replace hW := (wfP_i (wfP_i (wfP_i (wfP_a hW v224) ev224) rv224) ((rg_rem ev224 rp1 kc_2 rfl).2))
                            have tv224 := (rg_rem ev224 rp1 kc_2 rfl).2
                            have y225 : (2 : Int32).toInt = 2 := by decide
                            have uv224 : (0 : Int) ≤ v224.toInt ∧ v224.toInt ≤ 1 := rv224
                            refine lv_iconst (v := 1) hx hb dX11_arrive_203 (by decide) ?_
                            refine lv_icmp_ne (tgt := 211) hx hb dX11_arrive_204 (by decide) (fun c204_226 => ?_) (fun c204_226 => ?_)
                            · skip
                              replace hW := wfP_i (wfP_l hW) (i_ne c204_226 rfl (rg_i kc_1))
                              have ic204_226 : v224.toInt ≠ (1 : Int32).toInt := fun z => c204_226 (Int32.toInt_inj.mp z)
                              have y227 : (1 : Int32).toInt = 1 := by decide
                              have q228 : rg (0) (0) v224 := rg_neH c204_226 rv224 kc_1
                              have uq228 : (0 : Int) ≤ v224.toInt ∧ v224.toInt ≤ 0 := q228
                              refine lv_iconst (v := 0) hx hb dX11_arrive_211 (by decide) ?_
                              refine c_ci (As := [.ref (Z.ad 34 0), .int a178_7_208, .int (0 : Int32)]) (rest := []) x hml L210 9 0 al222 rfl (d_ksread l (X + (10 * a37_5_13.toInt + 2 + a178_8_209.toInt)) g210 0 0 a178_7_208 (0 : Int32) ⟨by omega, by omega⟩ al222 al223 (rg_w q221 rfl) (rg_w kc_0 rfl) hW) (wk_V kd_X9_read kl_X11_163 ki_X9_read ks_X9_X9_read kn_X9) rfl ⟨rfl, rfl⟩ hd_ksread ⟨Nat.le_of_ble_eq_true rfl, Nat.le_of_ble_eq_true rfl⟩ rfl hl.1 rfl (lv_room (Nat.le_of_ble_eq_true rfl)) dX11_arrive_212 (fun v230 g229 H229 k229 hp229 L229 => ?_) hcs
                              obtain ⟨hW, hi229, hp229⟩ := hp229
                              replace hW := wfP_i hW ⟨hi229, hp229⟩
                              have rv230 : rg (0) (1) v230 := hp229.2.1
                              have uv230 : (0 : Int) ≤ v230.toInt ∧ v230.toInt ≤ 1 := rv230
                              have hw231 := hp229.2.2
                              refine lv_if_eq (tgt := 230) hx hb dX11_arrive_215 (by decide) (fun c215_232 => ?_) (fun c215_232 => ?_)
                              · skip
                                replace hW := wfP_i (wfP_l hW) (i_eq c215_232 rfl (rg_i kc_0))
                                have ic215_232 := congrArg Int32.toInt c215_232
                                have y233 : (0 : Int32).toInt = 0 := by decide
                                have q234 : rg (0) (0) v230 := (rg_eq c215_232 rv230 kc_0).1
                                have uq234 : (0 : Int) ≤ v230.toInt ∧ v230.toInt ≤ 0 := q234
                                refine lv_aload_n hx hb dX11_arrive_230 rfl (lv_at hl 3 rfl) ?_
                                have al235 : Z.al 5 v7.toInt.toNat := hz.2 5 v7.toInt.toNat (show v7.toInt.toNat < 2 * Z.n from (by omega))
                                refine c_getr (a := Z.ad 5 v7.toInt.toNat) x L229 4 v7.toInt.toNat 1 al213 rfl rfl (wk_in kf_X11_85) dX11_arrive_231 ?_
                                refine lv_aload_n hx hb dX11_arrive_234 rfl (lv_at hl 0 rfl) ?_
                                refine c_getr (a := Z.ad 34 0) x L229 11 i0 6 al211 rfl rfl (wk_in kf_X11_16) dX11_arrive_235 ?_
                                refine c_ci (As := [.ref (Z.ad 34 0)]) (rest := []) x hml L229 5 v7.toInt.toNat al235 rfl (d_ktakeNext l (X + (10 * a37_5_13.toInt + 2 + a178_8_209.toInt)) g229 v7.toInt.toNat 0 ⟨by omega, by omega⟩ (show v7.toInt.toNat < 2 * Z.n from (by omega)) al223 hW) (wk_V kd_X5_takeNext kl_X11_159 ki_X5_takeNext ks_X5_X5_takeNext kn_X5) rfl ⟨rfl, rfl⟩ hd_ktakeNext ⟨Nat.le_of_ble_eq_true rfl, Nat.le_of_ble_eq_true rfl⟩ rfl hl.1 rfl (lv_room (Nat.le_of_ble_eq_true rfl)) dX11_arrive_238 (fun v237 g236 H236 k236 hp236 L236 => ?_) hcs
                                obtain ⟨hW, hi236, hp236⟩ := hp236
                                replace hW := wfP_i hW ⟨hi236, hp236⟩
                                have rv237 : rg (0) (60) v237 := hp236.2.1
                                have uv237 : (0 : Int) ≤ v237.toInt ∧ v237.toInt ≤ 60 := rv237
                                have L238 := cL.mono L236 (show _ ≤ (X + ((10 * a37_5_13.toInt + 2 + a178_8_209.toInt) + 1)) by omega)
                                refine lv_istore (lv' := [(7, .int v237), (0, .ref (Z.ad 11 i0)), (1, .int p1), (2, .ref (Z.ad 3 q2)), (3, .ref (Z.ad 4 v7.toInt.toNat)), (4, .int v30), (5, .int a37_5_13), (8, .int a178_8_209)]) hx hb dX11_arrive_241 hl (by decide) rfl (fun ls hl => ?_)
                                obtain ⟨v239, ev239, fv239⟩ := inc_ex a178_8_209 (1) (1 : Int32) (by decide)
                                have rv239 : rg (1) (8) v239 := (rg_add ev239 q217 kc_1 rfl).1
                                have tv239 := (rg_add ev239 q217 kc_1 rfl).2
                                have yv239 : (1 : Int32).toInt = 1 := by decide
                                replace hW := (wfP_i (wfP_i (wfP_i (wfP_a hW v239) ev239) rv239) (w_iadd tv239 rfl (rg_i kc_1)))
                                refine lv_iinc (v := v239) (lv' := [(8, .int v239), (7, .int v237), (0, .ref (Z.ad 11 i0)), (1, .int p1), (2, .ref (Z.ad 3 q2)), (3, .ref (Z.ad 4 v7.toInt.toNat)), (4, .int v30), (5, .int a37_5_13)]) hx hb dX11_arrive_243 hl (k := 7) rfl fv239 (by decide) rfl (fun ls hl => ?_)
                                refine lv_goto (tgt := 178) hx hb dX11_arrive_246 (by decide) ?_
                                exact ih210 _ (ms_up tv239 kc_1 q217 rfl rfl) v237 v239 Z g236 _ _ ls _ _ (mFr.tr (mFr.tr hF210 hp229.1 rfl) hp236.1 rfl) (mFi.sub (mFi.sub hI210 hi229 (mSub_eq 57 rfl (mSub_eq 58 rfl (mSub_eq 59 rfl (mSub_eq 60 rfl (mSub_eq 61 rfl (mSub_eq 62 rfl (mSub_eq 63 rfl (mSub_eq 64 rfl (mSub_eq 65 rfl mSub_nil)))))))))) hi236 (mSub_any 33 rfl (mSub_any 34 rfl (mSub_eq 84 rfl (mSub_any 86 rfl (mSub_any 87 rfl mSub_nil)))))) xa (cL.mono L238 (by omega)) hzl hcs (cJ_fr (cJ_fr hJ210 hp229.1 rfl) hp236.1 rfl) (rg_w rv237 rfl) (rg_w rv239 rfl) hW (lv_sub hl [2, 3, 4, 5, 6, 7, 1, 0] rfl) rfl
                              · skip
                                replace hW := wfP_i (wfP_r hW) (i_ne c215_232 rfl (rg_i kc_0))
                                have ic215_232 : v230.toInt ≠ (0 : Int32).toInt := fun z => c215_232 (Int32.toInt_inj.mp z)
                                have y240 : (0 : Int32).toInt = 0 := by decide
                                have q241 : rg (1) (1) v230 := rg_neL c215_232 rv230 kc_0
                                have uq241 : (1 : Int) ≤ v230.toInt ∧ v230.toInt ≤ 1 := q241
                                refine lv_aload_n hx hb dX11_arrive_218 rfl (lv_at hl 3 rfl) ?_
                                refine lv_aload_n hx hb dX11_arrive_219 rfl (lv_at hl 0 rfl) ?_
                                refine c_getr (a := Z.ad 9 0) x L229 11 i0 5 al211 rfl rfl (wk_in kf_X11_12) dX11_arrive_220 ?_
                                refine lv_aload_n hx hb dX11_arrive_223 rfl (lv_at hl 0 rfl) ?_
                                refine c_geti x L229 11 i0 10 362 al211 rfl rfl (wk_in kf_X11_82) dX11_arrive_224 (fun v242 ev242 wv242 => ?_)
                                have rv242 : rg (-2147483648) (2147483647) v242 := rg_any v242
                                replace hW := (wfP_i (wfP_i (wfP_a hW v242) ev242) rv242)
                                have uv242 : (-2147483648 : Int) ≤ v242.toInt ∧ v242.toInt ≤ 2147483647 := rv242
                                have sv242 : v242.toInt = (g 362 i0).toInt := congrArg Int32.toInt (ev242.trans (congrFun ((show mFr [0, 1, 2, 32, 33, 34, 35, 36, 37, 38, 39, 40, 41, 42, 43, 44, 45, 46, 47, 48, 49, 67, 108, 109, 111, 135, 136, 164, 165, 166, 167, 168, 169, 170, 171, 172, 173, 174, 175, 176, 177, 178, 179, 180, 197, 198, 225, 226, 227, 228, 229, 230, 231, 232, 233, 234, 235, 288, 289, 290, 291, 292, 293, 294, 295, 296, 323, 384, 385, 386, 421, 422, 512, 544, 576, 768, 800, 832, 864, 928, 960, 992, 1024, 1056, 1088, 1248, 1280, 1344, 1536, 1728, 1729] g g229 from (mFr.tr (mFr.tr (mFr.tr (mFr.tr (mFr.tr (mFr.tr (mFr.tr (mFr.tr mFr.rf hF14 rfl) hp28.1 rfl) hp38.1 rfl) hp49.1 rfl) hp203.1 rfl) hp205.1 rfl) hF210 rfl) hp229.1 rfl)).at 362 rfl) _))
                                obtain ⟨n243_0, ho243, hW⟩ := wfP_e1 hW
                                have hz0243 := hzl.2.2.2.1
                                have hz1243 := hzl.2.2.2.2
                                refine k_callv xa L229 (k_runU (x := ⟨"CellSwitch$Side", "came", "(LCellSwitch$Signal;I)V"⟩) (As := [.ref (Z.ad 9 0), .int v242]) (rest := []) ⟨hx, hb, hml, x.2.2.2.2.1, x.2.2.1⟩ (d_kcame_4 l (X + (10 * a37_5_13.toInt + 2 + a178_8_209.toInt)) g229 v7.toInt.toNat 0 v242 _ n243_0 ⟨by omega, by omega⟩ (cJ_fr hJ210 hp229.1 rfl) (by omega) (show v7.toInt.toNat < Z.n from (by omega)) al222 (hw231 (by omega)) hW) (va_cwU 2 x.2.2.1 (wk_U (owner := "CellSwitch$Side") kd_X8_came kl_X11_167 km_CellSwitchSide_CellSwitchSide_came ks_X4_CellSwitchSide_X8_came ki_X8_came kn_X8) rfl rfl rfl rfl (by decide +kernel) ⟨Nat.le_of_ble_eq_true rfl, Nat.le_of_ble_eq_true rfl⟩) ⟨cPreA.blind, c_recv x L229 al213 rfl, fun U hU hW => k_pre xa L229 U hU hW⟩ rfl rfl hl.1 rfl (lv_room (Nat.le_of_ble_eq_true rfl)) dX11_arrive_227 ⟨show c210 + 2 ≤ a by omega, show l210 + (18 + n243_0) ≤ b by omega⟩) (fun  Z g243 H243 k243 kc243 kn243 hk243 hn243 hp243 hz243 xa L243 => ?_)
                                obtain ⟨hW, hi243, hp243⟩ := hp243
                                replace hW := wfP_i (wfP_a (wfP_i hW ⟨hi243, hp243⟩) Z) rfl
                                have hww243 := hp243.2.2.1
                                have ea243_0 := hz243.2.2.1 11 i0 al211 (by omega)
                                have ea243_1 := hz243.2.2.1 3 q2 al212 (by omega)
                                have ea243_2 := hz243.2.2.1 4 v7.toInt.toNat al213 (by omega)
                                rw [← ea243_0] at hl
                                rw [← ea243_1] at hl
                                rw [← ea243_2] at hl
                                have al243_0 := hz243.2.1 11 i0 al211
                                have al243_1 := hz243.2.1 3 q2 al212
                                have al243_2 := hz243.2.1 4 v7.toInt.toNat al213
                                have hZn243 := hz243.1
                                have x := xa.1
                                have hz := x.2.2.2.2.2.2.2.1
                                have hzn := hz.1
                                have hzl := cZl.tr hzl hz243
                                have hcs : c210 + kc243 ≤ a ∧ l210 + kn243 ≤ b := by omega
                                refine lv_aload_n hx hb dX11_arrive_230 rfl (lv_at hl 3 rfl) ?_
                                have al244 : Z.al 5 v7.toInt.toNat := hz.2 5 v7.toInt.toNat (show v7.toInt.toNat < 2 * Z.n from (by omega))
                                refine c_getr (a := Z.ad 5 v7.toInt.toNat) x L243 4 v7.toInt.toNat 1 al243_2 rfl rfl (wk_in kf_X11_85) dX11_arrive_231 ?_
                                refine lv_aload_n hx hb dX11_arrive_234 rfl (lv_at hl 0 rfl) ?_
                                have al245 : Z.al 34 0 := hz.2 34 0 (show 0 < 1 from (by omega))
                                refine c_getr (a := Z.ad 34 0) x L243 11 i0 6 al243_0 rfl rfl (wk_in kf_X11_16) dX11_arrive_235 ?_
                                refine c_ci (As := [.ref (Z.ad 34 0)]) (rest := []) x hml L243 5 v7.toInt.toNat al244 rfl (d_ktakeNext l (X + (10 * a37_5_13.toInt + 2 + a178_8_209.toInt)) g243 v7.toInt.toNat 0 ⟨by omega, by omega⟩ (show v7.toInt.toNat < 2 * Z.n from (by omega)) al245 hW) (wk_V kd_X5_takeNext kl_X11_159 ki_X5_takeNext ks_X5_X5_takeNext kn_X5) rfl ⟨rfl, rfl⟩ hd_ktakeNext ⟨Nat.le_of_ble_eq_true rfl, Nat.le_of_ble_eq_true rfl⟩ rfl hl.1 rfl (lv_room (Nat.le_of_ble_eq_true rfl)) dX11_arrive_238 (fun v247 g246 H246 k246 hp246 L246 => ?_) hcs
                                obtain ⟨hW, hi246, hp246⟩ := hp246
                                replace hW := wfP_i hW ⟨hi246, hp246⟩
                                have rv247 : rg (0) (60) v247 := hp246.2.1
                                have uv247 : (0 : Int) ≤ v247.toInt ∧ v247.toInt ≤ 60 := rv247
                                have L248 := cL.mono L246 (show _ ≤ (X + ((10 * a37_5_13.toInt + 2 + a178_8_209.toInt) + 1)) by omega)
                                refine lv_istore (lv' := [(7, .int v247), (0, .ref (Z.ad 11 i0)), (1, .int p1), (2, .ref (Z.ad 3 q2)), (3, .ref (Z.ad 4 v7.toInt.toNat)), (4, .int v30), (5, .int a37_5_13), (8, .int a178_8_209)]) hx hb dX11_arrive_241 hl (by decide) rfl (fun ls hl => ?_)
                                obtain ⟨v249, ev249, fv249⟩ := inc_ex a178_8_209 (1) (1 : Int32) (by decide)
                                have rv249 : rg (1) (8) v249 := (rg_add ev249 q217 kc_1 rfl).1
                                have tv249 := (rg_add ev249 q217 kc_1 rfl).2
                                have yv249 : (1 : Int32).toInt = 1 := by decide
                                replace hW := (wfP_i (wfP_i (wfP_i (wfP_a hW v249) ev249) rv249) (w_iadd tv249 rfl (rg_i kc_1)))
                                refine lv_iinc (v := v249) (lv' := [(8, .int v249), (7, .int v247), (0, .ref (Z.ad 11 i0)), (1, .int p1), (2, .ref (Z.ad 3 q2)), (3, .ref (Z.ad 4 v7.toInt.toNat)), (4, .int v30), (5, .int a37_5_13)]) hx hb dX11_arrive_243 hl (k := 7) rfl fv249 (by decide) rfl (fun ls hl => ?_)
                                refine lv_goto (tgt := 178) hx hb dX11_arrive_246 (by decide) ?_
                                exact ih210 _ (ms_up tv249 kc_1 q217 rfl rfl) v247 v249 Z g246 _ _ ls _ _ (mFr.tr (mFr.tr (mFr.tr hF210 hp229.1 rfl) hp243.1 rfl) hp246.1 rfl) (mFi.sub (mFi.sub (mFi.sub hI210 hi229 (mSub_eq 57 rfl (mSub_eq 58 rfl (mSub_eq 59 rfl (mSub_eq 60 rfl (mSub_eq 61 rfl (mSub_eq 62 rfl (mSub_eq 63 rfl (mSub_eq 64 rfl (mSub_eq 65 rfl mSub_nil)))))))))) hi243 (mSub_any 3 rfl (mSub_any 4 rfl (mSub_any 5 rfl (mSub_any 6 rfl (mSub_any 7 rfl (mSub_any 8 rfl (mSub_any 9 rfl (mSub_any 10 rfl (mSub_any 11 rfl (mSub_any 12 rfl (mSub_any 13 rfl (mSub_any 14 rfl (mSub_any 15 rfl (mSub_any 16 rfl (mSub_any 17 rfl (mSub_any 18 rfl (mSub_any 19 rfl (mSub_any 20 rfl (mSub_any 25 rfl (mSub_any 45 rfl (mSub_any 67 rfl (mSub_any 68 rfl (mSub_any 69 rfl (mSub_any 77 rfl (mSub_any 78 rfl (mSub_any 88 rfl (mSub_any 89 rfl (mSub_any 90 rfl mSub_nil))))))))))))))))))))))))))))) hi246 (mSub_any 33 rfl (mSub_any 34 rfl (mSub_eq 84 rfl (mSub_any 86 rfl (mSub_any 87 rfl mSub_nil)))))) xa (cL.mono L248 (by omega)) hzl hcs (cJ_fr hp243.2.1 hp246.1 rfl) (rg_w rv247 rfl) (rg_w rv249 rfl) hW (lv_sub hl [2, 3, 4, 5, 6, 7, 1, 0] rfl) rfl
                            · skip
                              replace hW := wfP_i (wfP_r hW) (i_eq c204_226 rfl (rg_i kc_1))
                              have ic204_226 := congrArg Int32.toInt c204_226
                              have y250 : (1 : Int32).toInt = 1 := by decide
                              have q251 : rg (1) (1) v224 := (rg_eq c204_226 rv224 kc_1).1
                              have uq251 : (1 : Int) ≤ v224.toInt ∧ v224.toInt ≤ 1 := q251
                              refine lv_iconst (v := 1) hx hb dX11_arrive_207 (by decide) ?_
                              refine lv_goto (tgt := 212) hx hb dX11_arrive_208 (by decide) ?_
                              refine c_ci (As := [.ref (Z.ad 34 0), .int a178_7_208, .int (1 : Int32)]) (rest := []) x hml L210 9 0 al222 rfl (d_ksread l (X + (10 * a37_5_13.toInt + 2 + a178_8_209.toInt)) g210 0 0 a178_7_208 (1 : Int32) ⟨by omega, by omega⟩ al222 al223 (rg_w q221 rfl) (rg_w kc_1 rfl) hW) (wk_V kd_X9_read kl_X11_163 ki_X9_read ks_X9_X9_read kn_X9) rfl ⟨rfl, rfl⟩ hd_ksread ⟨Nat.le_of_ble_eq_true rfl, Nat.le_of_ble_eq_true rfl⟩ rfl hl.1 rfl (lv_room (Nat.le_of_ble_eq_true rfl)) dX11_arrive_212 (fun v253 g252 H252 k252 hp252 L252 => ?_) hcs
                              obtain ⟨hW, hi252, hp252⟩ := hp252
                              replace hW := wfP_i hW ⟨hi252, hp252⟩
                              have rv253 : rg (0) (1) v253 := hp252.2.1
                              have uv253 : (0 : Int) ≤ v253.toInt ∧ v253.toInt ≤ 1 := rv253
                              have hw254 := hp252.2.2
                              refine lv_if_eq (tgt := 230) hx hb dX11_arrive_215 (by decide) (fun c215_255 => ?_) (fun c215_255 => ?_)
                              · skip
                                replace hW := wfP_i (wfP_l hW) (i_eq c215_255 rfl (rg_i kc_0))
                                have ic215_255 := congrArg Int32.toInt c215_255
                                have y256 : (0 : Int32).toInt = 0 := by decide
                                have q257 : rg (0) (0) v253 := (rg_eq c215_255 rv253 kc_0).1
                                have uq257 : (0 : Int) ≤ v253.toInt ∧ v253.toInt ≤ 0 := q257
                                refine lv_aload_n hx hb dX11_arrive_230 rfl (lv_at hl 3 rfl) ?_
                                have al258 : Z.al 5 v7.toInt.toNat := hz.2 5 v7.toInt.toNat (show v7.toInt.toNat < 2 * Z.n from (by omega))
                                refine c_getr (a := Z.ad 5 v7.toInt.toNat) x L252 4 v7.toInt.toNat 1 al213 rfl rfl (wk_in kf_X11_85) dX11_arrive_231 ?_
                                refine lv_aload_n hx hb dX11_arrive_234 rfl (lv_at hl 0 rfl) ?_
                                refine c_getr (a := Z.ad 34 0) x L252 11 i0 6 al211 rfl rfl (wk_in kf_X11_16) dX11_arrive_235 ?_
                                refine c_ci (As := [.ref (Z.ad 34 0)]) (rest := []) x hml L252 5 v7.toInt.toNat al258 rfl (d_ktakeNext l (X + (10 * a37_5_13.toInt + 2 + a178_8_209.toInt)) g252 v7.toInt.toNat 0 ⟨by omega, by omega⟩ (show v7.toInt.toNat < 2 * Z.n from (by omega)) al223 hW) (wk_V kd_X5_takeNext kl_X11_159 ki_X5_takeNext ks_X5_X5_takeNext kn_X5) rfl ⟨rfl, rfl⟩ hd_ktakeNext ⟨Nat.le_of_ble_eq_true rfl, Nat.le_of_ble_eq_true rfl⟩ rfl hl.1 rfl (lv_room (Nat.le_of_ble_eq_true rfl)) dX11_arrive_238 (fun v260 g259 H259 k259 hp259 L259 => ?_) hcs
                                obtain ⟨hW, hi259, hp259⟩ := hp259
                                replace hW := wfP_i hW ⟨hi259, hp259⟩
                                have rv260 : rg (0) (60) v260 := hp259.2.1
                                have uv260 : (0 : Int) ≤ v260.toInt ∧ v260.toInt ≤ 60 := rv260
                                have L261 := cL.mono L259 (show _ ≤ (X + ((10 * a37_5_13.toInt + 2 + a178_8_209.toInt) + 1)) by omega)
                                refine lv_istore (lv' := [(7, .int v260), (0, .ref (Z.ad 11 i0)), (1, .int p1), (2, .ref (Z.ad 3 q2)), (3, .ref (Z.ad 4 v7.toInt.toNat)), (4, .int v30), (5, .int a37_5_13), (8, .int a178_8_209)]) hx hb dX11_arrive_241 hl (by decide) rfl (fun ls hl => ?_)
                                obtain ⟨v262, ev262, fv262⟩ := inc_ex a178_8_209 (1) (1 : Int32) (by decide)
                                have rv262 : rg (1) (8) v262 := (rg_add ev262 q217 kc_1 rfl).1
                                have tv262 := (rg_add ev262 q217 kc_1 rfl).2
                                have yv262 : (1 : Int32).toInt = 1 := by decide
                                replace hW := (wfP_i (wfP_i (wfP_i (wfP_a hW v262) ev262) rv262) (w_iadd tv262 rfl (rg_i kc_1)))
                                refine lv_iinc (v := v262) (lv' := [(8, .int v262), (7, .int v260), (0, .ref (Z.ad 11 i0)), (1, .int p1), (2, .ref (Z.ad 3 q2)), (3, .ref (Z.ad 4 v7.toInt.toNat)), (4, .int v30), (5, .int a37_5_13)]) hx hb dX11_arrive_243 hl (k := 7) rfl fv262 (by decide) rfl (fun ls hl => ?_)
                                refine lv_goto (tgt := 178) hx hb dX11_arrive_246 (by decide) ?_
                                exact ih210 _ (ms_up tv262 kc_1 q217 rfl rfl) v260 v262 Z g259 _ _ ls _ _ (mFr.tr (mFr.tr hF210 hp252.1 rfl) hp259.1 rfl) (mFi.sub (mFi.sub hI210 hi252 (mSub_eq 57 rfl (mSub_eq 58 rfl (mSub_eq 59 rfl (mSub_eq 60 rfl (mSub_eq 61 rfl (mSub_eq 62 rfl (mSub_eq 63 rfl (mSub_eq 64 rfl (mSub_eq 65 rfl mSub_nil)))))))))) hi259 (mSub_any 33 rfl (mSub_any 34 rfl (mSub_eq 84 rfl (mSub_any 86 rfl (mSub_any 87 rfl mSub_nil)))))) xa (cL.mono L261 (by omega)) hzl hcs (cJ_fr (cJ_fr hJ210 hp252.1 rfl) hp259.1 rfl) (rg_w rv260 rfl) (rg_w rv262 rfl) hW (lv_sub hl [2, 3, 4, 5, 6, 7, 1, 0] rfl) rfl
                              · skip
                                replace hW := wfP_i (wfP_r hW) (i_ne c215_255 rfl (rg_i kc_0))
                                have ic215_255 : v253.toInt ≠ (0 : Int32).toInt := fun z => c215_255 (Int32.toInt_inj.mp z)
                                have y263 : (0 : Int32).toInt = 0 := by decide
                                have q264 : rg (1) (1) v253 := rg_neL c215_255 rv253 kc_0
                                have uq264 : (1 : Int) ≤ v253.toInt ∧ v253.toInt ≤ 1 := q264
                                refine lv_aload_n hx hb dX11_arrive_218 rfl (lv_at hl 3 rfl) ?_
                                refine lv_aload_n hx hb dX11_arrive_219 rfl (lv_at hl 0 rfl) ?_
                                refine c_getr (a := Z.ad 9 0) x L252 11 i0 5 al211 rfl rfl (wk_in kf_X11_12) dX11_arrive_220 ?_
                                refine lv_aload_n hx hb dX11_arrive_223 rfl (lv_at hl 0 rfl) ?_
                                refine c_geti x L252 11 i0 10 362 al211 rfl rfl (wk_in kf_X11_82) dX11_arrive_224 (fun v265 ev265 wv265 => ?_)
                                have rv265 : rg (-2147483648) (2147483647) v265 := rg_any v265
                                replace hW := (wfP_i (wfP_i (wfP_a hW v265) ev265) rv265)
                                have uv265 : (-2147483648 : Int) ≤ v265.toInt ∧ v265.toInt ≤ 2147483647 := rv265
                                have sv265 : v265.toInt = (g 362 i0).toInt := congrArg Int32.toInt (ev265.trans (congrFun ((show mFr [0, 1, 2, 32, 33, 34, 35, 36, 37, 38, 39, 40, 41, 42, 43, 44, 45, 46, 47, 48, 49, 67, 108, 109, 111, 135, 136, 164, 165, 166, 167, 168, 169, 170, 171, 172, 173, 174, 175, 176, 177, 178, 179, 180, 197, 198, 225, 226, 227, 228, 229, 230, 231, 232, 233, 234, 235, 288, 289, 290, 291, 292, 293, 294, 295, 296, 323, 384, 385, 386, 421, 422, 512, 544, 576, 768, 800, 832, 864, 928, 960, 992, 1024, 1056, 1088, 1248, 1280, 1344, 1536, 1728, 1729] g g252 from (mFr.tr (mFr.tr (mFr.tr (mFr.tr (mFr.tr (mFr.tr (mFr.tr (mFr.tr mFr.rf hF14 rfl) hp28.1 rfl) hp38.1 rfl) hp49.1 rfl) hp203.1 rfl) hp205.1 rfl) hF210 rfl) hp252.1 rfl)).at 362 rfl) _))
                                obtain ⟨n266_0, ho266, hW⟩ := wfP_e1 hW
                                have hz0266 := hzl.2.2.2.1
                                have hz1266 := hzl.2.2.2.2
                                refine k_callv xa L252 (k_runU (x := ⟨"CellSwitch$Side", "came", "(LCellSwitch$Signal;I)V"⟩) (As := [.ref (Z.ad 9 0), .int v265]) (rest := []) ⟨hx, hb, hml, x.2.2.2.2.1, x.2.2.1⟩ (d_kcame_4 l (X + (10 * a37_5_13.toInt + 2 + a178_8_209.toInt)) g252 v7.toInt.toNat 0 v265 _ n266_0 ⟨by omega, by omega⟩ (cJ_fr hJ210 hp252.1 rfl) (by omega) (show v7.toInt.toNat < Z.n from (by omega)) al222 (hw254 (by omega)) hW) (va_cwU 2 x.2.2.1 (wk_U (owner := "CellSwitch$Side") kd_X8_came kl_X11_167 km_CellSwitchSide_CellSwitchSide_came ks_X4_CellSwitchSide_X8_came ki_X8_came kn_X8) rfl rfl rfl rfl (by decide +kernel) ⟨Nat.le_of_ble_eq_true rfl, Nat.le_of_ble_eq_true rfl⟩) ⟨cPreA.blind, c_recv x L252 al213 rfl, fun U hU hW => k_pre xa L252 U hU hW⟩ rfl rfl hl.1 rfl (lv_room (Nat.le_of_ble_eq_true rfl)) dX11_arrive_227 ⟨show c210 + 2 ≤ a by omega, show l210 + (18 + n266_0) ≤ b by omega⟩) (fun  Z g266 H266 k266 kc266 kn266 hk266 hn266 hp266 hz266 xa L266 => ?_)
                                obtain ⟨hW, hi266, hp266⟩ := hp266
                                replace hW := wfP_i (wfP_a (wfP_i hW ⟨hi266, hp266⟩) Z) rfl
                                have hww266 := hp266.2.2.1
                                have ea266_0 := hz266.2.2.1 11 i0 al211 (by omega)
                                have ea266_1 := hz266.2.2.1 3 q2 al212 (by omega)
                                have ea266_2 := hz266.2.2.1 4 v7.toInt.toNat al213 (by omega)
                                rw [← ea266_0] at hl
                                rw [← ea266_1] at hl
                                rw [← ea266_2] at hl
                                have al266_0 := hz266.2.1 11 i0 al211
                                have al266_1 := hz266.2.1 3 q2 al212
                                have al266_2 := hz266.2.1 4 v7.toInt.toNat al213
                                have hZn266 := hz266.1
                                have x := xa.1
                                have hz := x.2.2.2.2.2.2.2.1
                                have hzn := hz.1
                                have hzl := cZl.tr hzl hz266
                                have hcs : c210 + kc266 ≤ a ∧ l210 + kn266 ≤ b := by omega
                                refine lv_aload_n hx hb dX11_arrive_230 rfl (lv_at hl 3 rfl) ?_
                                have al267 : Z.al 5 v7.toInt.toNat := hz.2 5 v7.toInt.toNat (show v7.toInt.toNat < 2 * Z.n from (by omega))
                                refine c_getr (a := Z.ad 5 v7.toInt.toNat) x L266 4 v7.toInt.toNat 1 al266_2 rfl rfl (wk_in kf_X11_85) dX11_arrive_231 ?_
                                refine lv_aload_n hx hb dX11_arrive_234 rfl (lv_at hl 0 rfl) ?_
                                have al268 : Z.al 34 0 := hz.2 34 0 (show 0 < 1 from (by omega))
                                refine c_getr (a := Z.ad 34 0) x L266 11 i0 6 al266_0 rfl rfl (wk_in kf_X11_16) dX11_arrive_235 ?_
                                refine c_ci (As := [.ref (Z.ad 34 0)]) (rest := []) x hml L266 5 v7.toInt.toNat al267 rfl (d_ktakeNext l (X + (10 * a37_5_13.toInt + 2 + a178_8_209.toInt)) g266 v7.toInt.toNat 0 ⟨by omega, by omega⟩ (show v7.toInt.toNat < 2 * Z.n from (by omega)) al268 hW) (wk_V kd_X5_takeNext kl_X11_159 ki_X5_takeNext ks_X5_X5_takeNext kn_X5) rfl ⟨rfl, rfl⟩ hd_ktakeNext ⟨Nat.le_of_ble_eq_true rfl, Nat.le_of_ble_eq_true rfl⟩ rfl hl.1 rfl (lv_room (Nat.le_of_ble_eq_true rfl)) dX11_arrive_238 (fun v270 g269 H269 k269 hp269 L269 => ?_) hcs
                                obtain ⟨hW, hi269, hp269⟩ := hp269
                                replace hW := wfP_i hW ⟨hi269, hp269⟩
                                have rv270 : rg (0) (60) v270 := hp269.2.1
                                have uv270 : (0 : Int) ≤ v270.toInt ∧ v270.toInt ≤ 60 := rv270
                                have L271 := cL.mono L269 (show _ ≤ (X + ((10 * a37_5_13.toInt + 2 + a178_8_209.toInt) + 1)) by omega)
                                refine lv_istore (lv' := [(7, .int v270), (0, .ref (Z.ad 11 i0)), (1, .int p1), (2, .ref (Z.ad 3 q2)), (3, .ref (Z.ad 4 v7.toInt.toNat)), (4, .int v30), (5, .int a37_5_13), (8, .int a178_8_209)]) hx hb dX11_arrive_241 hl (by decide) rfl (fun ls hl => ?_)
                                obtain ⟨v272, ev272, fv272⟩ := inc_ex a178_8_209 (1) (1 : Int32) (by decide)
                                have rv272 : rg (1) (8) v272 := (rg_add ev272 q217 kc_1 rfl).1
                                have tv272 := (rg_add ev272 q217 kc_1 rfl).2
                                have yv272 : (1 : Int32).toInt = 1 := by decide
                                replace hW := (wfP_i (wfP_i (wfP_i (wfP_a hW v272) ev272) rv272) (w_iadd tv272 rfl (rg_i kc_1)))
                                refine lv_iinc (v := v272) (lv' := [(8, .int v272), (7, .int v270), (0, .ref (Z.ad 11 i0)), (1, .int p1), (2, .ref (Z.ad 3 q2)), (3, .ref (Z.ad 4 v7.toInt.toNat)), (4, .int v30), (5, .int a37_5_13)]) hx hb dX11_arrive_243 hl (k := 7) rfl fv272 (by decide) rfl (fun ls hl => ?_)
                                refine lv_goto (tgt := 178) hx hb dX11_arrive_246 (by decide) ?_
                                exact ih210 _ (ms_up tv272 kc_1 q217 rfl rfl) v270 v272 Z g269 _ _ ls _ _ (mFr.tr (mFr.tr (mFr.tr hF210 hp252.1 rfl) hp266.1 rfl) hp269.1 rfl) (mFi.sub (mFi.sub (mFi.sub hI210 hi252 (mSub_eq 57 rfl (mSub_eq 58 rfl (mSub_eq 59 rfl (mSub_eq 60 rfl (mSub_eq 61 rfl (mSub_eq 62 rfl (mSub_eq 63 rfl (mSub_eq 64 rfl (mSub_eq 65 rfl mSub_nil)))))))))) hi266 (mSub_any 3 rfl (mSub_any 4 rfl (mSub_any 5 rfl (mSub_any 6 rfl (mSub_any 7 rfl (mSub_any 8 rfl (mSub_any 9 rfl (mSub_any 10 rfl (mSub_any 11 rfl (mSub_any 12 rfl (mSub_any 13 rfl (mSub_any 14 rfl (mSub_any 15 rfl (mSub_any 16 rfl (mSub_any 17 rfl (mSub_any 18 rfl (mSub_any 19 rfl (mSub_any 20 rfl (mSub_any 25 rfl (mSub_any 45 rfl (mSub_any 67 rfl (mSub_any 68 rfl (mSub_any 69 rfl (mSub_any 77 rfl (mSub_any 78 rfl (mSub_any 88 rfl (mSub_any 89 rfl (mSub_any 90 rfl mSub_nil))))))))))))))))))))))))))))) hi269 (mSub_any 33 rfl (mSub_any 34 rfl (mSub_eq 84 rfl (mSub_any 86 rfl (mSub_any 87 rfl mSub_nil)))))) xa (cL.mono L271 (by omega)) hzl hcs (cJ_fr hp266.2.1 hp269.1 rfl) (rg_w rv270 rfl) (rg_w rv272 rfl) hW (lv_sub hl [2, 3, 4, 5, 6, 7, 1, 0] rfl) rfl
                    have y273 : (0 : Int32).toInt = 0 := by decide
                    exact j178_210 _ v206 (0 : Int32) Z g205 _ _ ls _ _ mFr.rf mFi.rf xa (cL.mono L207 (by omega)) hzl hcs (cJ_fr hp203.2.1 hp205.1 rfl) (rg_w rv206 rfl) (rg_w kc_0 rfl) hW (lv_sub hl [4, 5, 6, 7, 3, 8, 1, 0] rfl) rfl
                · skip
                  replace hW := wfP_i (wfP_r hW) (i_eq c92_41 rfl (rg_i kc_0))
                  have ic92_41 := congrArg Int32.toInt c92_41
                  have y274 : (0 : Int32).toInt = 0 := by decide
                  have q275 : rg (0) (0) v39 := (rg_eq c92_41 rv39 kc_0).1
                  have uq275 : (0 : Int) ≤ v39.toInt ∧ v39.toInt ≤ 0 := q275
                  refine lv_goto (tgt := 249) hx hb dX11_arrive_95 (by decide) ?_
                  obtain ⟨v276, ev276, fv276⟩ := inc_ex a37_5_13 (1) (1 : Int32) (by decide)
                  have rv276 : rg (1) (212) v276 := (rg_add ev276 q20 kc_1 rfl).1
                  have tv276 := (rg_add ev276 q20 kc_1 rfl).2
                  have yv276 : (1 : Int32).toInt = 1 := by decide
                  replace hW := (wfP_i (wfP_i (wfP_i (wfP_a hW v276) ev276) rv276) (w_iadd tv276 rfl (rg_i kc_1)))
                  refine lv_iinc (v := v276) (lv' := [(5, .int v276), (4, .int v30), (0, .ref (Z.ad 11 i0)), (1, .int p1), (2, .ref (Z.ad 3 q2)), (3, .ref (Z.ad 4 v7.toInt.toNat))]) hx hb dX11_arrive_249 hl (k := 5) rfl fv276 (by decide) rfl (fun ls hl => ?_)
                  refine lv_goto (tgt := 37) hx hb dX11_arrive_252 (by decide) ?_
                  exact ih14 _ (ms_up tv276 kc_1 q20 rfl rfl) v30 v276 Z g38 _ _ ls _ _ (mFr.tr (mFr.tr hF14 hp28.1 rfl) hp38.1 rfl) (mFi.sub (mFi.sub hI14 hi28 (mSub_eq 46 rfl (mSub_eq 47 rfl (mSub_eq 48 rfl (mSub_eq 49 rfl (mSub_eq 50 rfl (mSub_eq 51 rfl (mSub_eq 52 rfl (mSub_eq 53 rfl (mSub_eq 54 rfl (mSub_eq 55 rfl (mSub_eq 56 rfl (mSub_eq 76 rfl mSub_nil))))))))))))) hi38 (mSub_any 0 rfl (mSub_any 1 rfl (mSub_any 2 rfl (mSub_any 17 rfl (mSub_any 21 rfl (mSub_any 22 rfl (mSub_eq 23 rfl (mSub_any 26 rfl (mSub_any 72 rfl (mSub_any 73 rfl (mSub_any 74 rfl (mSub_any 80 rfl (mSub_any 81 rfl (mSub_any 82 rfl (mSub_any 83 rfl mSub_nil)))))))))))))))) xa (cL.mono L40 (by omega)) hzl hcs hp38.2.2.1 (rg_w rv30 rfl) (rg_w rv276 rfl) hW (lv_sub hl [2, 3, 4, 5, 1, 0] rfl) rfl
      have y277 : (0 : Int32).toInt = 0 := by decide
      have y278 : (0 : Int32).toInt = 0 := by decide
      exact j37_14 _ (0 : Int32) (0 : Int32) Z g _ _ ls _ _ mFr.rf mFi.rf xa (cL.mono L (by omega)) hzl hcs hJ (rg_w kc_0 rfl) (rg_w kc_0 rfl) hW (lv_sub hl [3, 4, 5, 2, 1, 0] rfl) rfl
    · skip
      replace hW := wfP_i (wfP_r hW) hc9
      exfalso; omega
  · skip
    replace hW := wfP_i (wfP_r hW) (i_eq c3_3 rfl (rg_i kc_0))
    have ic3_3 := congrArg Int32.toInt c3_3
    have y279 : (0 : Int32).toInt = 0 := by decide
    have q280 : rg (0) (0) v1 := (rg_eq c3_3 rv1 kc_0).1
    have uq280 : (0 : Int) ≤ v1.toInt ∧ v1.toInt ≤ 0 := q280
    refine lv_aload_n hx hb dX11_arrive_6 rfl (lv_at hl 0 rfl) ?_
    have al281 : Z.al 52 0 := hz.2 52 0 (show 0 < 1 from (by omega))
    refine c_getr (a := Z.ad 52 0) x L 11 i0 4 ha_0 rfl rfl (wk_in kf_X11_71) dX11_arrive_7 ?_
    refine lv_aload_n hx hb dX11_arrive_10 rfl (lv_at hl 0 rfl) ?_
    refine c_getc x L 11 i0 0 ha_0 rfl (wk_in kf_X11_55) dX11_arrive_11 (fun v282 ev282 => ?_)
    have tv282 : v282.toInt = (Z.n : Int) := cCv_11 ev282 hzn
    have rv282 : rg (2) (4) v282 := ⟨by omega, by omega⟩
    replace hW := (wfP_i (wfP_i (wfP_a hW v282) tv282) rv282)
    refine lv_iload_n hx hb dX11_arrive_14 rfl (lv_at hl 1 rfl) ?_
    refine lv_iconst (v := 2) hx hb dX11_arrive_15 (by decide) ?_
    refine lv_idiv hx hb dX11_arrive_16 (by decide) ?_
    refine lv_topi (fun v283 ev283 => ?_)
    have rv283 : rg (0) (3) v283 := (rg_div ev283 rp1 kc_2 rfl).1
    replace hW := (wfP_i (wfP_i (wfP_i (wfP_a hW v283) ev283) rv283) ((rg_div ev283 rp1 kc_2 rfl).2))
    have tv283 := (rg_div ev283 rp1 kc_2 rfl).2
    have y284 : (2 : Int32).toInt = 2 := by decide
    have uv283 : (0 : Int) ≤ v283.toInt ∧ v283.toInt ≤ 3 := rv283
    refine lv_iadd hx hb dX11_arrive_17 ?_
    refine lv_topi (fun v285 ev285 => ?_)
    have rv285 : rg (2) (7) v285 := (rg_add ev285 rv282 rv283 rfl).1
    replace hW := (wfP_i (wfP_i (wfP_i (wfP_a hW v285) ev285) rv285) (w_iadd ((rg_add ev285 rv282 rv283 rfl).2) rfl rfl))
    have tv285 := (rg_add ev285 rv282 rv283 rfl).2
    have uv285 : (2 : Int) ≤ v285.toInt ∧ v285.toInt ≤ 7 := rv285
    rcases Nat.lt_or_ge v285.toInt.toNat Z.n with hc286 | hc286
    · skip
      replace hW := wfP_i (wfP_l hW) hc286
      exfalso; omega
    · skip
      replace hW := wfP_i (wfP_r hW) hc286
      have al288 : Z.al 10 (v285.toInt.toNat - Z.n) := hz.2 10 (v285.toInt.toNat - Z.n) (show (v285.toInt.toNat - Z.n) < Z.n from (by omega))
      refine c_ldr (a := Z.ad 10 (v285.toInt.toNat - Z.n)) x L 52 0 al281 rfl (by omega) (show v285.toInt < (((2 * Z.n) : Nat) : Int) from (by omega)) (by show some (cSd Z v285.toInt.toNat) = _; unfold cSd; rw [if_neg (Nat.not_lt.mpr hc286)]) dX11_arrive_18 ?_
      refine lv_goto (tgt := 30) hx hb dX11_arrive_19 (by decide) ?_
      obtain ⟨sx289, hsx289⟩ : ∃ y : Nat, y = (v285.toInt.toNat - Z.n) := ⟨_, rfl⟩
      rw [← hsx289]
      replace hW := (wfP_i (wfP_a hW sx289) hsx289)
      have al290 : Z.al 10 sx289 := hz.2 10 sx289 (show sx289 < Z.n from (by omega))
      refine lv_astore_n (lv' := [(3, .ref (Z.ad 10 sx289)), (0, .ref (Z.ad 11 i0)), (1, .int p1), (2, .ref (Z.ad 3 q2))]) hx hb dX11_arrive_30 rfl hl (by decide) rfl (fun ls hl => ?_)
      refine lv_iconst (v := 0) hx hb dX11_arrive_31 (by decide) ?_
      refine lv_istore (lv' := [(4, .int (0 : Int32)), (3, .ref (Z.ad 10 sx289)), (0, .ref (Z.ad 11 i0)), (1, .int p1), (2, .ref (Z.ad 3 q2))]) hx hb dX11_arrive_32 hl (by decide) rfl (fun ls hl => ?_)
      refine lv_iconst (v := 0) hx hb dX11_arrive_34 (by decide) ?_
      refine lv_istore (lv' := [(5, .int (0 : Int32)), (4, .int (0 : Int32)), (3, .ref (Z.ad 10 sx289)), (0, .ref (Z.ad 11 i0)), (1, .int p1), (2, .ref (Z.ad 3 q2))]) hx hb dX11_arrive_35 hl (by decide) rfl (fun ls hl => ?_)
      obtain ⟨P293, hP293, hW⟩ := wfP_ex hW
      have j37_293 : ∀ (n : Nat) (a37_4_291 a37_5_292 : Int32) (Z : cZ) (g293 : mSt) (H293 : Heap) (k293 : List Loc) (ls : Array Slot) (c293 l293 : Nat), mFr [0, 1, 2, 32, 33, 34, 35, 36, 37, 38, 39, 40, 41, 42, 43, 44, 45, 46, 47, 48, 49, 67, 108, 109, 111, 135, 136, 164, 165, 166, 167, 168, 169, 170, 171, 172, 173, 174, 175, 176, 177, 178, 179, 180, 197, 198, 225, 226, 227, 228, 229, 230, 231, 232, 233, 234, 235, 288, 289, 290, 291, 292, 293, 294, 295, 296, 323, 384, 385, 386, 421, 422, 512, 544, 576, 768, 800, 832, 864, 928, 960, 992, 1024, 1056, 1088, 1248, 1280, 1344, 1536, 1728, 1729] g g293 → mFi (im_karrive i0 p1 q2) g g293 → cXA p c cX11_arrive s args (wk (Cond.code yX11_arrive cX11_arrive 9 none)) m G Z A RX11 H0 → cL G Z A H0 (X + (10 * a37_5_292.toInt)) g293 H293 k293 → cZl Z0 Z c293 l293 → (c293 ≤ a ∧ l293 ≤ b) → cJ Z g293 → rg (-2147483648) (2147483647) a37_4_291 → rg (0) (212) a37_5_292 → wfP (P293 a37_4_291 a37_5_292 Z g293) → lv_has ls 9 [(0, .ref (Z.ad 11 i0)), (1, .int p1), (2, .ref (Z.ad 3 q2)), (3, .ref (Z.ad 10 sx289)), (4, .int a37_4_291), (5, .int a37_5_292)] → ((212 : Int) - a37_5_292.toInt).toNat = n → W p l e (rm_karrive a b) s m args below meth c H293 k293 c293 l293 Q (F0 m 37 ls []) := by
        intro n
        induction n using Nat.strongRecOn with
        | _ n ih293 =>
          intro a37_4_291 a37_5_292 Z g293 H293 k293 ls c293 l293 hF293 hI293 xa L293 hzl hcs hJ293 ra37_4_291 ra37_5_292 hW hl hn293
          subst hn293
          have x := xa.1
          have hz := x.2.2.2.2.2.2.2.1
          have hzn := hz.1
          have hZn293 := hzl.1
          replace hW := wfP_i (wfP_i (wfP_i (wfP_i (wfP_i (wfP_i (wfP_i (wfP_a (wfP_a (wfP_a (wfP_a hP293 a37_4_291) a37_5_292) Z) g293) hF293) hI293) hJ293) hzl.1) ra37_4_291) ra37_5_292) hW
          have ua37_4_291 : (-2147483648 : Int) ≤ a37_4_291.toInt ∧ a37_4_291.toInt ≤ 2147483647 := ra37_4_291
          have ua37_5_292 : (0 : Int) ≤ a37_5_292.toInt ∧ a37_5_292.toInt ≤ 212 := ra37_5_292
          have al294 := hzl.2.1 11 i0 hal0
          have al295 := hzl.2.1 3 q2 hq2
          have al296 : Z.al 10 sx289 := hz.2 10 sx289 (show sx289 < Z.n from (by omega))
          refine lv_iload hx hb dX11_arrive_37 (lv_at hl 5 rfl) ?_
          refine lv_sipush (v := 212) hx hb dX11_arrive_39 (by decide) ?_
          refine lv_icmp_ge (tgt := 255) hx hb dX11_arrive_42 (by decide) (fun c42_297 => ?_) (fun c42_297 => ?_)
          · skip
            replace hW := wfP_i (wfP_l hW) (i_le c42_297 (rg_i kc_212) rfl)
            have ic42_297 := Int32.le_iff_toInt_le.mp c42_297
            have q298 : rg (212) (212) a37_5_292 := (rg_le c42_297 kc_212 ra37_5_292).2
            have uq298 : (212 : Int) ≤ a37_5_292.toInt ∧ a37_5_292.toInt ≤ 212 := q298
            exact hQ _ _ Z _ _ _ _ _ dX11_arrive_255 xa (cL.mono L293 (by omega)) hzl hcs ⟨hW, (mFi.tr mFi.rf hI293), (mFr.tr mFr.rf hF293 rfl), hJ293, trivial⟩
          · skip
            replace hW := wfP_i (wfP_r hW) (i_lt (rg_nle c42_297) rfl (rg_i kc_212))
            have ic42_297 := Int32.lt_iff_toInt_lt.mp (rg_nle c42_297)
            have q299 : rg (0) (211) a37_5_292 := (rg_lt (rg_nle c42_297) ra37_5_292 kc_212).1
            have uq299 : (0 : Int) ≤ a37_5_292.toInt ∧ a37_5_292.toInt ≤ 211 := q299
            refine lv_iload hx hb dX11_arrive_45 (lv_at hl 4 rfl) ?_
            refine lv_aload_n hx hb dX11_arrive_47 rfl (lv_at hl 2 rfl) ?_
            refine c_geti x L293 3 q2 5 101 al295 rfl rfl (wk_in kf_X11_116) dX11_arrive_48 (fun v300 ev300 wv300 => ?_)
            have rv300 : rg (0) (212) v300 := clj_101 wv300
            replace hW := (wfP_i (wfP_i (wfP_a hW v300) ev300) rv300)
            have uv300 : (0 : Int) ≤ v300.toInt ∧ v300.toInt ≤ 212 := rv300
            have sv300 : v300.toInt = (g 101 q2).toInt := congrArg Int32.toInt (ev300.trans (congrFun ((show mFr [0, 1, 2, 32, 33, 34, 35, 36, 37, 38, 39, 40, 41, 42, 43, 44, 45, 46, 47, 48, 49, 67, 108, 109, 111, 135, 136, 164, 165, 166, 167, 168, 169, 170, 171, 172, 173, 174, 175, 176, 177, 178, 179, 180, 197, 198, 225, 226, 227, 228, 229, 230, 231, 232, 233, 234, 235, 288, 289, 290, 291, 292, 293, 294, 295, 296, 323, 384, 385, 386, 421, 422, 512, 544, 576, 768, 800, 832, 864, 928, 960, 992, 1024, 1056, 1088, 1248, 1280, 1344, 1536, 1728, 1729] g g293 from (mFr.tr mFr.rf hF293 rfl)).at 101 rfl) _))
            refine lv_icmp_ge (tgt := 255) hx hb dX11_arrive_51 (by decide) (fun c51_301 => ?_) (fun c51_301 => ?_)
            · skip
              replace hW := wfP_i (wfP_l hW) (i_le c51_301 rfl rfl)
              have ic51_301 := Int32.le_iff_toInt_le.mp c51_301
              have q302 : rg (0) (2147483647) a37_4_291 := (rg_le c51_301 rv300 ra37_4_291).2
              have uq302 : (0 : Int) ≤ a37_4_291.toInt ∧ a37_4_291.toInt ≤ 2147483647 := q302
              exact hQ _ _ Z _ _ _ _ _ dX11_arrive_255 xa (cL.mono L293 (by omega)) hzl hcs ⟨hW, (mFi.tr mFi.rf hI293), (mFr.tr mFr.rf hF293 rfl), hJ293, trivial⟩
            · skip
              replace hW := wfP_i (wfP_r hW) (i_lt (rg_nle c51_301) rfl rfl)
              have ic51_301 := Int32.lt_iff_toInt_lt.mp (rg_nle c51_301)
              have q303 : rg (-2147483648) (211) a37_4_291 := (rg_lt (rg_nle c51_301) ra37_4_291 rv300).1
              have uq303 : (-2147483648 : Int) ≤ a37_4_291.toInt ∧ a37_4_291.toInt ≤ 211 := q303
              refine lv_iload hx hb dX11_arrive_54 (lv_at hl 4 rfl) ?_
              refine lv_aload_n hx hb dX11_arrive_56 rfl (lv_at hl 2 rfl) ?_
              have al304 : Z.al 7 q2 := hz.2 7 q2 (show q2 < 2 * Z.n from (by omega))
              refine c_getr (a := Z.ad 7 q2) x L293 3 q2 2 al295 rfl rfl (wk_in kf_X11_119) dX11_arrive_57 ?_
              refine lv_aload_n hx hb dX11_arrive_60 rfl (lv_at hl 2 rfl) ?_
              have al305 : Z.al 19 q2 := hz.2 19 q2 (show q2 < 2 * Z.n from (by omega))
              refine c_getr (a := Z.ad 19 q2) x L293 3 q2 4 al295 rfl rfl (wk_in kf_X11_123) dX11_arrive_61 ?_
              refine lv_iload hx hb dX11_arrive_64 (lv_at hl 4 rfl) ?_
              refine lv_aload_n hx hb dX11_arrive_66 rfl (lv_at hl 2 rfl) ?_
              refine c_geti x L293 3 q2 5 101 al295 rfl rfl (wk_in kf_X11_116) dX11_arrive_67 (fun v306 ev306 wv306 => ?_)
              refine m_top ((ev300).trans ev306.symm) ?_
              refine c_ci (As := [.ref (Z.ad 19 q2), .int a37_4_291, .int v300]) (rest := [.int a37_4_291]) x hml L293 7 q2 al304 rfl (d_ktake l (X + (10 * a37_5_292.toInt)) g293 q2 q2 a37_4_291 v300 ⟨by omega, by omega⟩ hJ293 (show q2 < 2 * Z.n from (by omega)) al305 hW) (wk_V kd_X7_take kl_X11_126 ki_X7_take ks_X7_X7_take kn_X7) rfl ⟨rfl, rfl⟩ hd_ktake ⟨Nat.le_of_ble_eq_true rfl, Nat.le_of_ble_eq_true rfl⟩ rfl hl.1 rfl (lv_room (Nat.le_of_ble_eq_true rfl)) dX11_arrive_70 (fun v308 g307 H307 k307 hp307 L307 => ?_) hcs
              obtain ⟨hW, hi307, hp307⟩ := hp307
              replace hW := wfP_i hW ⟨hi307, hp307⟩
              have rv308 : rg (-210) (48) v308 := hp307.2.1
              have uv308 : (-210 : Int) ≤ v308.toInt ∧ v308.toInt ≤ 48 := rv308
              refine lv_iadd hx hb dX11_arrive_73 ?_
              refine lv_topi (fun v309 ev309 => ?_)
              have rv309 : rg (-2147483648) (2147483647) v309 := rg_any v309
              replace hW := (wfP_i (wfP_i (wfP_a hW v309) ev309) rv309)
              have uv309 : (-2147483648 : Int) ≤ v309.toInt ∧ v309.toInt ≤ 2147483647 := rv309
              refine lv_istore (lv' := [(4, .int v309), (0, .ref (Z.ad 11 i0)), (1, .int p1), (2, .ref (Z.ad 3 q2)), (3, .ref (Z.ad 10 sx289)), (5, .int a37_5_292)]) hx hb dX11_arrive_74 hl (by decide) rfl (fun ls hl => ?_)
              refine lv_aload_n hx hb dX11_arrive_76 rfl (lv_at hl 3 rfl) ?_
              refine c_getr (a := Z.ad 7 q2) x L307 3 q2 2 al295 rfl rfl (wk_in kf_X11_119) dX11_arrive_77 ?_
              refine c_geti x L307 7 q2 11 235 al304 rfl rfl (wk_in kf_X11_132) dX11_arrive_80 (fun v310 ev310 wv310 => ?_)
              have rv310 : rg (0) (1) v310 := clj_235 wv310
              replace hW := (wfP_i (wfP_i (wfP_a hW v310) ev310) rv310)
              have uv310 : (0 : Int) ≤ v310.toInt ∧ v310.toInt ≤ 1 := rv310
              refine lv_if_eq (tgt := 249) hx hb dX11_arrive_83 (by decide) (fun c83_311 => ?_) (fun c83_311 => ?_)
              · skip
                replace hW := wfP_i (wfP_l hW) (i_eq c83_311 rfl (rg_i kc_0))
                have ic83_311 := congrArg Int32.toInt c83_311
                have y312 : (0 : Int32).toInt = 0 := by decide
                have q313 : rg (0) (0) v310 := (rg_eq c83_311 rv310 kc_0).1
                have uq313 : (0 : Int) ≤ v310.toInt ∧ v310.toInt ≤ 0 := q313
                obtain ⟨v314, ev314, fv314⟩ := inc_ex a37_5_292 (1) (1 : Int32) (by decide)
                have rv314 : rg (1) (212) v314 := (rg_add ev314 q299 kc_1 rfl).1
                have tv314 := (rg_add ev314 q299 kc_1 rfl).2
                have yv314 : (1 : Int32).toInt = 1 := by decide
                replace hW := (wfP_i (wfP_i (wfP_i (wfP_a hW v314) ev314) rv314) (w_iadd tv314 rfl (rg_i kc_1)))
                refine lv_iinc (v := v314) (lv' := [(5, .int v314), (4, .int v309), (0, .ref (Z.ad 11 i0)), (1, .int p1), (2, .ref (Z.ad 3 q2)), (3, .ref (Z.ad 10 sx289))]) hx hb dX11_arrive_249 hl (k := 5) rfl fv314 (by decide) rfl (fun ls hl => ?_)
                refine lv_goto (tgt := 37) hx hb dX11_arrive_252 (by decide) ?_
                exact ih293 _ (ms_up tv314 kc_1 q299 rfl rfl) v309 v314 Z g307 _ _ ls _ _ (mFr.tr hF293 hp307.1 rfl) (mFi.sub hI293 hi307 (mSub_eq 46 rfl (mSub_eq 47 rfl (mSub_eq 48 rfl (mSub_eq 49 rfl (mSub_eq 50 rfl (mSub_eq 51 rfl (mSub_eq 52 rfl (mSub_eq 53 rfl (mSub_eq 54 rfl (mSub_eq 55 rfl (mSub_eq 56 rfl (mSub_eq 76 rfl mSub_nil))))))))))))) xa (cL.mono L307 (by omega)) hzl hcs hp307.2.2.1 (rg_w rv309 rfl) (rg_w rv314 rfl) hW (lv_sub hl [2, 3, 4, 5, 1, 0] rfl) rfl
              · skip
                replace hW := wfP_i (wfP_r hW) (i_ne c83_311 rfl (rg_i kc_0))
                have ic83_311 : v310.toInt ≠ (0 : Int32).toInt := fun z => c83_311 (Int32.toInt_inj.mp z)
                have y315 : (0 : Int32).toInt = 0 := by decide
                have q316 : rg (1) (1) v310 := rg_neL c83_311 rv310 kc_0
                have uq316 : (1 : Int) ≤ v310.toInt ∧ v310.toInt ≤ 1 := q316
                refine lv_aload_n hx hb dX11_arrive_86 rfl (lv_at hl 1 rfl) ?_
                refine lv_iload_n hx hb dX11_arrive_87 rfl (lv_at hl 2 rfl) ?_
                refine lv_aload_n hx hb dX11_arrive_88 rfl (lv_at hl 3 rfl) ?_
                obtain ⟨ho317, hW⟩ := wfP_e0 hW
                have hz0317 := hzl.2.2.2.1
                have hz1317 := hzl.2.2.2.2
                refine k_calli xa L307 (k_runV (As := [.int p1, .ref (Z.ad 3 q2)]) (rest := []) ⟨hx, hb, hml, x.2.2.2.2.1, x.2.2.1⟩ (d_kcellCame l (X + (10 * a37_5_292.toInt)) g307 i0 p1 q2 _ ⟨by omega, by omega⟩ hp307.2.2.1 (by omega) al294 (rg_w rp1 rfl) al295 (by omega) hW) (cwV 2 x.2.2.1 (wk_V kd_X11_cellCame kl_X11_136 ki_X11_cellCame ks_X11_X11_cellCame kn_X11) rfl rfl rfl hd_kcellCame ⟨Nat.le_of_ble_eq_true rfl, Nat.le_of_ble_eq_true rfl⟩) ⟨cPreA.blind, c_recv x L307 al294 rfl, fun U hU hW => k_pre xa L307 U hU hW⟩ rfl rfl hl.1 rfl (lv_room (Nat.le_of_ble_eq_true rfl)) dX11_arrive_89 ⟨show c293 + 2 ≤ a by omega, show l293 + (243) ≤ b by omega⟩) (fun v318 Z g317 H317 k317 kc317 kn317 hk317 hn317 hp317 hz317 xa L317 => ?_)
                obtain ⟨hW, hi317, hp317⟩ := hp317
                replace hW := wfP_i (wfP_a (wfP_i hW ⟨hi317, hp317⟩) Z) rfl
                have rv318 : rg (0) (1) v318 := hp317.2.1
                have uv318 : (0 : Int) ≤ v318.toInt ∧ v318.toInt ≤ 1 := rv318
                have hww317 := hp317.2.2.2.1
                have ea317_0 := hz317.2.2.1 11 i0 al294 (by omega)
                have ea317_1 := hz317.2.2.1 3 q2 al295 (by omega)
                have ea317_2 := hz317.2.2.1 10 sx289 al296 (by omega)
                rw [← ea317_0] at hl
                rw [← ea317_1] at hl
                rw [← ea317_2] at hl
                have al317_0 := hz317.2.1 11 i0 al294
                have al317_1 := hz317.2.1 3 q2 al295
                have al317_2 := hz317.2.1 10 sx289 al296
                have hZn317 := hz317.1
                have x := xa.1
                have hz := x.2.2.2.2.2.2.2.1
                have hzn := hz.1
                have hzl := cZl.tr hzl hz317
                have hcs : c293 + kc317 ≤ a ∧ l293 + kn317 ≤ b := by omega
                have L319 := cL.mono L317 (show _ ≤ (X + ((10 * a37_5_292.toInt) + 1)) by omega)
                refine lv_if_ne (tgt := 98) hx hb dX11_arrive_92 (by decide) (fun c92_320 => ?_) (fun c92_320 => ?_)
                · skip
                  replace hW := wfP_i (wfP_l hW) (i_ne c92_320 rfl (rg_i kc_0))
                  have ic92_320 : v318.toInt ≠ (0 : Int32).toInt := fun z => c92_320 (Int32.toInt_inj.mp z)
                  have y321 : (0 : Int32).toInt = 0 := by decide
                  have q322 : rg (1) (1) v318 := rg_neL c92_320 rv318 kc_0
                  have uq322 : (1 : Int) ≤ v318.toInt ∧ v318.toInt ≤ 1 := q322
                  refine lv_aload_n hx hb dX11_arrive_98 rfl (lv_at hl 4 rfl) ?_
                  have al323 : Z.al 5 (Z.n + sx289) := hz.2 5 (Z.n + sx289) (show (Z.n + sx289) < 2 * Z.n from (by omega))
                  refine c_getr (a := Z.ad 5 (Z.n + sx289)) x L319 10 sx289 1 al317_2 rfl rfl (wk_in kf_X11_85) dX11_arrive_99 ?_
                  refine lv_aload_n hx hb dX11_arrive_102 rfl (lv_at hl 3 rfl) ?_
                  have al324 : Z.al 0 q2 := hz.2 0 q2 (show q2 < 2 * Z.n from (by omega))
                  refine c_getr (a := Z.ad 0 q2) x L319 3 q2 3 al317_1 rfl rfl (wk_in kf_X11_140) dX11_arrive_103 ?_
                  have al325 : Z.al 16 q2 := hz.2 16 q2 (show q2 < 2 * Z.n from (by omega))
                  refine c_getr (a := Z.ad 16 q2) x L319 0 q2 0 al324 rfl rfl (wk_in kf_X11_144) dX11_arrive_106 ?_
                  refine lv_aload_n hx hb dX11_arrive_109 rfl (lv_at hl 3 rfl) ?_
                  refine c_getr (a := Z.ad 0 q2) x L319 3 q2 3 al317_1 rfl rfl (wk_in kf_X11_140) dX11_arrive_110 ?_
                  refine c_geti x L319 0 q2 2 2 al324 rfl rfl (wk_in kf_X11_149) dX11_arrive_113 (fun v326 ev326 wv326 => ?_)
                  have rv326 : rg (-2147483648) (2147483647) v326 := rg_any v326
                  replace hW := (wfP_i (wfP_i (wfP_a hW v326) ev326) rv326)
                  have uv326 : (-2147483648 : Int) ≤ v326.toInt ∧ v326.toInt ≤ 2147483647 := rv326
                  refine lv_aload_n hx hb dX11_arrive_116 rfl (lv_at hl 1 rfl) ?_
                  refine c_geti x L319 11 i0 10 362 al317_0 rfl rfl (wk_in kf_X11_82) dX11_arrive_117 (fun v327 ev327 wv327 => ?_)
                  have rv327 : rg (-2147483648) (2147483647) v327 := rg_any v327
                  replace hW := (wfP_i (wfP_i (wfP_a hW v327) ev327) rv327)
                  have uv327 : (-2147483648 : Int) ≤ v327.toInt ∧ v327.toInt ≤ 2147483647 := rv327
                  have sv327 : v327.toInt = (g 362 i0).toInt := congrArg Int32.toInt (ev327.trans (congrFun ((show mFr [0, 1, 2, 32, 33, 34, 35, 36, 37, 38, 39, 40, 41, 42, 43, 44, 45, 46, 47, 48, 49, 67, 108, 109, 111, 135, 136, 164, 165, 166, 167, 168, 169, 170, 171, 172, 173, 174, 175, 176, 177, 178, 179, 180, 197, 198, 225, 226, 227, 228, 229, 230, 231, 232, 233, 234, 235, 288, 289, 290, 291, 292, 293, 294, 295, 296, 323, 384, 385, 386, 421, 422, 512, 544, 576, 768, 800, 832, 864, 928, 960, 992, 1024, 1056, 1088, 1248, 1280, 1344, 1536, 1728, 1729] g g317 from (mFr.tr (mFr.tr (mFr.tr mFr.rf hF293 rfl) hp307.1 rfl) hp317.1 rfl)).at 362 rfl) _))
                  refine c_ci (As := [.ref (Z.ad 16 q2), .int v326, .int v327]) (rest := []) x hml L319 5 (Z.n + sx289) al323 rfl (d_kunitCame l (X + ((10 * a37_5_292.toInt) + 1)) g317 (Z.n + sx289) q2 v326 v327 ⟨by omega, by omega⟩ (show (Z.n + sx289) < 2 * Z.n from (by omega)) al325 hW) (wk_V kd_X5_unitCame kl_X11_152 ki_X5_unitCame ks_X5_X5_unitCame kn_X5) rfl ⟨rfl, rfl⟩ hd_kunitCame ⟨Nat.le_of_ble_eq_true rfl, Nat.le_of_ble_eq_true rfl⟩ rfl hl.1 rfl (lv_room (Nat.le_of_ble_eq_true rfl)) dX11_arrive_120 (fun v329 g328 H328 k328 hp328 L328 => ?_) hcs
                  obtain ⟨hW, hi328, hp328⟩ := hp328
                  replace hW := wfP_i hW ⟨hi328, hp328⟩
                  have rv329 : rg (0) (2) v329 := hp328.2.1
                  have uv329 : (0 : Int) ≤ v329.toInt ∧ v329.toInt ≤ 2 := rv329
                  refine lv_istore (lv' := [(6, .int v329), (4, .int v309), (0, .ref (Z.ad 11 i0)), (1, .int p1), (2, .ref (Z.ad 3 q2)), (3, .ref (Z.ad 10 sx289)), (5, .int a37_5_292)]) hx hb dX11_arrive_123 hl (by decide) rfl (fun ls hl => ?_)
                  refine lv_iload hx hb dX11_arrive_125 (lv_at hl 0 rfl) ?_
                  refine lv_iconst (v := 1) hx hb dX11_arrive_127 (by decide) ?_
                  refine lv_icmp_ne (tgt := 142) hx hb dX11_arrive_128 (by decide) (fun c128_330 => ?_) (fun c128_330 => ?_)
                  · skip
                    replace hW := wfP_i (wfP_l hW) (i_ne c128_330 rfl (rg_i kc_1))
                    have ic128_330 : v329.toInt ≠ (1 : Int32).toInt := fun z => c128_330 (Int32.toInt_inj.mp z)
                    have y331 : (1 : Int32).toInt = 1 := by decide
                    refine lv_iload hx hb dX11_arrive_142 (lv_at hl 0 rfl) ?_
                    refine lv_iconst (v := 2) hx hb dX11_arrive_144 (by decide) ?_
                    refine lv_icmp_ne (tgt := 162) hx hb dX11_arrive_145 (by decide) (fun c145_332 => ?_) (fun c145_332 => ?_)
                    · skip
                      replace hW := wfP_i (wfP_l hW) (i_ne c145_332 rfl (rg_i kc_2))
                      have ic145_332 : v329.toInt ≠ (2 : Int32).toInt := fun z => c145_332 (Int32.toInt_inj.mp z)
                      have y333 : (2 : Int32).toInt = 2 := by decide
                      have q334 : rg (0) (1) v329 := rg_neH c145_332 rv329 kc_2
                      have uq334 : (0 : Int) ≤ v329.toInt ∧ v329.toInt ≤ 1 := q334
                      refine lv_aload_n hx hb dX11_arrive_162 rfl (lv_at hl 5 rfl) ?_
                      refine c_getr (a := Z.ad 5 (Z.n + sx289)) x L328 10 sx289 1 al317_2 rfl rfl (wk_in kf_X11_85) dX11_arrive_163 ?_
                      refine lv_aload_n hx hb dX11_arrive_166 rfl (lv_at hl 2 rfl) ?_
                      have al335 : Z.al 34 0 := hz.2 34 0 (show 0 < 1 from (by omega))
                      refine c_getr (a := Z.ad 34 0) x L328 11 i0 6 al317_0 rfl rfl (wk_in kf_X11_16) dX11_arrive_167 ?_
                      refine c_ci (As := [.ref (Z.ad 34 0)]) (rest := []) x hml L328 5 (Z.n + sx289) al323 rfl (d_ktakeNext l (X + ((10 * a37_5_292.toInt) + 1)) g328 (Z.n + sx289) 0 ⟨by omega, by omega⟩ (show (Z.n + sx289) < 2 * Z.n from (by omega)) al335 hW) (wk_V kd_X5_takeNext kl_X11_159 ki_X5_takeNext ks_X5_X5_takeNext kn_X5) rfl ⟨rfl, rfl⟩ hd_ktakeNext ⟨Nat.le_of_ble_eq_true rfl, Nat.le_of_ble_eq_true rfl⟩ rfl hl.1 rfl (lv_room (Nat.le_of_ble_eq_true rfl)) dX11_arrive_170 (fun v337 g336 H336 k336 hp336 L336 => ?_) hcs
                      obtain ⟨hW, hi336, hp336⟩ := hp336
                      replace hW := wfP_i hW ⟨hi336, hp336⟩
                      have rv337 : rg (0) (60) v337 := hp336.2.1
                      have uv337 : (0 : Int) ≤ v337.toInt ∧ v337.toInt ≤ 60 := rv337
                      have L338 := cL.mono L336 (show _ ≤ (X + (((10 * a37_5_292.toInt) + 1) + 1)) by omega)
                      refine lv_istore (lv' := [(7, .int v337), (6, .int v329), (4, .int v309), (0, .ref (Z.ad 11 i0)), (1, .int p1), (2, .ref (Z.ad 3 q2)), (3, .ref (Z.ad 10 sx289)), (5, .int a37_5_292)]) hx hb dX11_arrive_173 hl (by decide) rfl (fun ls hl => ?_)
                      refine lv_iconst (v := 0) hx hb dX11_arrive_175 (by decide) ?_
                      refine lv_istore (lv' := [(8, .int (0 : Int32)), (7, .int v337), (6, .int v329), (4, .int v309), (0, .ref (Z.ad 11 i0)), (1, .int p1), (2, .ref (Z.ad 3 q2)), (3, .ref (Z.ad 10 sx289)), (5, .int a37_5_292)]) hx hb dX11_arrive_176 hl (by decide) rfl (fun ls hl => ?_)
                      obtain ⟨P341, hP341, hW⟩ := wfP_ex hW
                      have j178_341 : ∀ (n : Nat) (a178_7_339 a178_8_340 : Int32) (Z : cZ) (g341 : mSt) (H341 : Heap) (k341 : List Loc) (ls : Array Slot) (c341 l341 : Nat), mFr [32, 33, 34, 35, 36, 37, 38, 39, 40, 41, 42, 43, 44, 45, 46, 47, 48, 49, 135, 170, 171, 198, 288, 289, 290, 291, 292, 293, 294, 295, 296, 323, 384, 385, 386, 832, 864, 1088, 1280, 1344, 1536, 1728, 1729] g336 g341 → mFi (im_karrive i0 p1 q2) g336 g341 → cXA p c cX11_arrive s args (wk (Cond.code yX11_arrive cX11_arrive 9 none)) m G Z A RX11 H0 → cL G Z A H0 (X + (10 * a37_5_292.toInt + 2 + a178_8_340.toInt)) g341 H341 k341 → cZl Z0 Z c341 l341 → (c341 ≤ a ∧ l341 ≤ b) → cJ Z g341 → rg (0) (60) a178_7_339 → rg (0) (8) a178_8_340 → wfP (P341 a178_7_339 a178_8_340 Z g341) → lv_has ls 9 [(0, .ref (Z.ad 11 i0)), (1, .int p1), (2, .ref (Z.ad 3 q2)), (3, .ref (Z.ad 10 sx289)), (4, .int v309), (5, .int a37_5_292), (7, .int a178_7_339), (8, .int a178_8_340)] → ((8 : Int) - a178_8_340.toInt).toNat = n → W p l e (rm_karrive a b) s m args below meth c H341 k341 c341 l341 Q (F0 m 178 ls []) := by
                        intro n
                        induction n using Nat.strongRecOn with
                        | _ n ih341 =>
                          intro a178_7_339 a178_8_340 Z g341 H341 k341 ls c341 l341 hF341 hI341 xa L341 hzl hcs hJ341 ra178_7_339 ra178_8_340 hW hl hn341
                          subst hn341
                          have x := xa.1
                          have hz := x.2.2.2.2.2.2.2.1
                          have hzn := hz.1
                          have hZn341 := hzl.1
                          replace hW := wfP_i (wfP_i (wfP_i (wfP_i (wfP_i (wfP_i (wfP_i (wfP_a (wfP_a (wfP_a (wfP_a hP341 a178_7_339) a178_8_340) Z) g341) hF341) hI341) hJ341) hzl.1) ra178_7_339) ra178_8_340) hW
                          have ua178_7_339 : (0 : Int) ≤ a178_7_339.toInt ∧ a178_7_339.toInt ≤ 60 := ra178_7_339
                          have ua178_8_340 : (0 : Int) ≤ a178_8_340.toInt ∧ a178_8_340.toInt ≤ 8 := ra178_8_340
                          have al342 := hzl.2.1 11 i0 hal0
                          have al343 := hzl.2.1 3 q2 hq2
                          have al344 : Z.al 10 sx289 := hz.2 10 sx289 (show sx289 < Z.n from (by omega))
                          refine lv_iload hx hb dX11_arrive_178 (lv_at hl 7 rfl) ?_
                          refine lv_bipush (v := 8) hx hb dX11_arrive_180 (by decide) ?_
                          refine lv_icmp_ge (tgt := 249) hx hb dX11_arrive_182 (by decide) (fun c182_345 => ?_) (fun c182_345 => ?_)
                          · skip
                            replace hW := wfP_i (wfP_l hW) (i_le c182_345 (rg_i kc_8) rfl)
                            have ic182_345 := Int32.le_iff_toInt_le.mp c182_345
                            have q346 : rg (8) (8) a178_8_340 := (rg_le c182_345 kc_8 ra178_8_340).2
                            have uq346 : (8 : Int) ≤ a178_8_340.toInt ∧ a178_8_340.toInt ≤ 8 := q346
                            obtain ⟨v347, ev347, fv347⟩ := inc_ex a37_5_292 (1) (1 : Int32) (by decide)
                            have rv347 : rg (1) (212) v347 := (rg_add ev347 q299 kc_1 rfl).1
                            have tv347 := (rg_add ev347 q299 kc_1 rfl).2
                            have yv347 : (1 : Int32).toInt = 1 := by decide
                            replace hW := (wfP_i (wfP_i (wfP_i (wfP_a hW v347) ev347) rv347) (w_iadd tv347 rfl (rg_i kc_1)))
                            refine lv_iinc (v := v347) (lv' := [(5, .int v347), (0, .ref (Z.ad 11 i0)), (1, .int p1), (2, .ref (Z.ad 3 q2)), (3, .ref (Z.ad 10 sx289)), (4, .int v309), (7, .int a178_7_339), (8, .int a178_8_340)]) hx hb dX11_arrive_249 hl (k := 5) rfl fv347 (by decide) rfl (fun ls hl => ?_)
                            refine lv_goto (tgt := 37) hx hb dX11_arrive_252 (by decide) ?_
                            exact ih293 _ (ms_up tv347 kc_1 q299 rfl rfl) v309 v347 Z g341 _ _ ls _ _ (mFr.tr (mFr.tr (mFr.tr (mFr.tr (mFr.tr hF293 hp307.1 rfl) hp317.1 rfl) hp328.1 rfl) hp336.1 rfl) hF341 rfl) (mFi.tr (mFi.sub (mFi.sub (mFi.sub (mFi.sub hI293 hi307 (mSub_eq 46 rfl (mSub_eq 47 rfl (mSub_eq 48 rfl (mSub_eq 49 rfl (mSub_eq 50 rfl (mSub_eq 51 rfl (mSub_eq 52 rfl (mSub_eq 53 rfl (mSub_eq 54 rfl (mSub_eq 55 rfl (mSub_eq 56 rfl (mSub_eq 76 rfl mSub_nil))))))))))))) hi317 (mSub_any 0 rfl (mSub_any 1 rfl (mSub_any 2 rfl (mSub_any 17 rfl (mSub_any 21 rfl (mSub_any 22 rfl (mSub_eq 23 rfl (mSub_any 26 rfl (mSub_any 72 rfl (mSub_any 73 rfl (mSub_any 74 rfl (mSub_any 80 rfl (mSub_any 81 rfl (mSub_any 82 rfl (mSub_any 83 rfl mSub_nil)))))))))))))))) hi328 (mSub_any 21 rfl (mSub_any 22 rfl (mSub_any 24 rfl (mSub_any 27 rfl (mSub_any 28 rfl (mSub_any 29 rfl (mSub_any 30 rfl (mSub_any 31 rfl (mSub_any 32 rfl (mSub_any 33 rfl (mSub_any 34 rfl (mSub_any 35 rfl (mSub_any 37 rfl (mSub_any 38 rfl (mSub_any 41 rfl (mSub_any 42 rfl (mSub_any 43 rfl (mSub_any 44 rfl (mSub_any 45 rfl (mSub_any 70 rfl (mSub_any 70 rfl (mSub_any 71 rfl (mSub_any 71 rfl (mSub_any 73 rfl (mSub_any 74 rfl (mSub_any 75 rfl (mSub_any 78 rfl (mSub_any 79 rfl (mSub_any 85 rfl (mSub_any 86 rfl (mSub_any 86 rfl (mSub_any 87 rfl (mSub_any 87 rfl mSub_nil)))))))))))))))))))))))))))))))))) hi336 (mSub_any 33 rfl (mSub_any 34 rfl (mSub_eq 84 rfl (mSub_any 86 rfl (mSub_any 87 rfl mSub_nil)))))) hI341) xa (cL.mono L341 (by omega)) hzl hcs hJ341 (rg_w rv309 rfl) (rg_w rv347 rfl) hW (lv_sub hl [1, 2, 3, 4, 5, 0] rfl) rfl
                          · skip
                            replace hW := wfP_i (wfP_r hW) (i_lt (rg_nle c182_345) rfl (rg_i kc_8))
                            have ic182_345 := Int32.lt_iff_toInt_lt.mp (rg_nle c182_345)
                            have q348 : rg (0) (7) a178_8_340 := (rg_lt (rg_nle c182_345) ra178_8_340 kc_8).1
                            have uq348 : (0 : Int) ≤ a178_8_340.toInt ∧ a178_8_340.toInt ≤ 7 := q348
                            refine lv_iload hx hb dX11_arrive_185 (lv_at hl 6 rfl) ?_
                            refine lv_if_le (tgt := 249) hx hb dX11_arrive_187 (by decide) (fun c187_349 => ?_) (fun c187_349 => ?_)
                            · skip
                              replace hW := wfP_i (wfP_l hW) (i_le c187_349 rfl (rg_i kc_0))
                              have ic187_349 := Int32.le_iff_toInt_le.mp c187_349
                              have q350 : rg (0) (0) a178_7_339 := (rg_le c187_349 ra178_7_339 kc_0).1
                              have uq350 : (0 : Int) ≤ a178_7_339.toInt ∧ a178_7_339.toInt ≤ 0 := q350
                              obtain ⟨v351, ev351, fv351⟩ := inc_ex a37_5_292 (1) (1 : Int32) (by decide)
                              have rv351 : rg (1) (212) v351 := (rg_add ev351 q299 kc_1 rfl).1
                              have tv351 := (rg_add ev351 q299 kc_1 rfl).2
                              have yv351 : (1 : Int32).toInt = 1 := by decide
                              replace hW := (wfP_i (wfP_i (wfP_i (wfP_a hW v351) ev351) rv351) (w_iadd tv351 rfl (rg_i kc_1)))
                              refine lv_iinc (v := v351) (lv' := [(5, .int v351), (0, .ref (Z.ad 11 i0)), (1, .int p1), (2, .ref (Z.ad 3 q2)), (3, .ref (Z.ad 10 sx289)), (4, .int v309), (7, .int a178_7_339), (8, .int a178_8_340)]) hx hb dX11_arrive_249 hl (k := 5) rfl fv351 (by decide) rfl (fun ls hl => ?_)
                              refine lv_goto (tgt := 37) hx hb dX11_arrive_252 (by decide) ?_
                              exact ih293 _ (ms_up tv351 kc_1 q299 rfl rfl) v309 v351 Z g341 _ _ ls _ _ (mFr.tr (mFr.tr (mFr.tr (mFr.tr (mFr.tr hF293 hp307.1 rfl) hp317.1 rfl) hp328.1 rfl) hp336.1 rfl) hF341 rfl) (mFi.tr (mFi.sub (mFi.sub (mFi.sub (mFi.sub hI293 hi307 (mSub_eq 46 rfl (mSub_eq 47 rfl (mSub_eq 48 rfl (mSub_eq 49 rfl (mSub_eq 50 rfl (mSub_eq 51 rfl (mSub_eq 52 rfl (mSub_eq 53 rfl (mSub_eq 54 rfl (mSub_eq 55 rfl (mSub_eq 56 rfl (mSub_eq 76 rfl mSub_nil))))))))))))) hi317 (mSub_any 0 rfl (mSub_any 1 rfl (mSub_any 2 rfl (mSub_any 17 rfl (mSub_any 21 rfl (mSub_any 22 rfl (mSub_eq 23 rfl (mSub_any 26 rfl (mSub_any 72 rfl (mSub_any 73 rfl (mSub_any 74 rfl (mSub_any 80 rfl (mSub_any 81 rfl (mSub_any 82 rfl (mSub_any 83 rfl mSub_nil)))))))))))))))) hi328 (mSub_any 21 rfl (mSub_any 22 rfl (mSub_any 24 rfl (mSub_any 27 rfl (mSub_any 28 rfl (mSub_any 29 rfl (mSub_any 30 rfl (mSub_any 31 rfl (mSub_any 32 rfl (mSub_any 33 rfl (mSub_any 34 rfl (mSub_any 35 rfl (mSub_any 37 rfl (mSub_any 38 rfl (mSub_any 41 rfl (mSub_any 42 rfl (mSub_any 43 rfl (mSub_any 44 rfl (mSub_any 45 rfl (mSub_any 70 rfl (mSub_any 70 rfl (mSub_any 71 rfl (mSub_any 71 rfl (mSub_any 73 rfl (mSub_any 74 rfl (mSub_any 75 rfl (mSub_any 78 rfl (mSub_any 79 rfl (mSub_any 85 rfl (mSub_any 86 rfl (mSub_any 86 rfl (mSub_any 87 rfl (mSub_any 87 rfl mSub_nil)))))))))))))))))))))))))))))))))) hi336 (mSub_any 33 rfl (mSub_any 34 rfl (mSub_eq 84 rfl (mSub_any 86 rfl (mSub_any 87 rfl mSub_nil)))))) hI341) xa (cL.mono L341 (by omega)) hzl hcs hJ341 (rg_w rv309 rfl) (rg_w rv351 rfl) hW (lv_sub hl [1, 2, 3, 4, 5, 0] rfl) rfl
                            · skip
                              replace hW := wfP_i (wfP_r hW) (i_lt (rg_nle c187_349) (rg_i kc_0) rfl)
                              have ic187_349 := Int32.lt_iff_toInt_lt.mp (rg_nle c187_349)
                              have q352 : rg (1) (60) a178_7_339 := (rg_lt (rg_nle c187_349) kc_0 ra178_7_339).2
                              have uq352 : (1 : Int) ≤ a178_7_339.toInt ∧ a178_7_339.toInt ≤ 60 := q352
                              refine lv_aload_n hx hb dX11_arrive_190 rfl (lv_at hl 0 rfl) ?_
                              have al353 : Z.al 9 0 := hz.2 9 0 (show 0 < 1 from (by omega))
                              refine c_getr (a := Z.ad 9 0) x L341 11 i0 5 al342 rfl rfl (wk_in kf_X11_12) dX11_arrive_191 ?_
                              refine lv_aload_n hx hb dX11_arrive_194 rfl (lv_at hl 0 rfl) ?_
                              have al354 : Z.al 34 0 := hz.2 34 0 (show 0 < 1 from (by omega))
                              refine c_getr (a := Z.ad 34 0) x L341 11 i0 6 al342 rfl rfl (wk_in kf_X11_16) dX11_arrive_195 ?_
                              refine lv_iload hx hb dX11_arrive_198 (lv_at hl 6 rfl) ?_
                              refine lv_iload_n hx hb dX11_arrive_200 rfl (lv_at hl 1 rfl) ?_
                              refine lv_iconst (v := 2) hx hb dX11_arrive_201 (by decide) ?_
                              refine lv_irem hx hb dX11_arrive_202 (by decide) ?_
                              refine lv_topi (fun v355 ev355 => ?_)
                              have rv355 : rg (0) (1) v355 := (rg_rem ev355 rp1 kc_2 rfl).1
                              replace hW := (wfP_i (wfP_i (wfP_i (wfP_a hW v355) ev355) rv355) ((rg_rem ev355 rp1 kc_2 rfl).2))
                              have tv355 := (rg_rem ev355 rp1 kc_2 rfl).2
                              have y356 : (2 : Int32).toInt = 2 := by decide
                              have uv355 : (0 : Int) ≤ v355.toInt ∧ v355.toInt ≤ 1 := rv355
                              refine lv_iconst (v := 1) hx hb dX11_arrive_203 (by decide) ?_
                              refine lv_icmp_ne (tgt := 211) hx hb dX11_arrive_204 (by decide) (fun c204_357 => ?_) (fun c204_357 => ?_)
                              · skip
                                replace hW := wfP_i (wfP_l hW) (i_ne c204_357 rfl (rg_i kc_1))
                                have ic204_357 : v355.toInt ≠ (1 : Int32).toInt := fun z => c204_357 (Int32.toInt_inj.mp z)
                                have y358 : (1 : Int32).toInt = 1 := by decide
                                have q359 : rg (0) (0) v355 := rg_neH c204_357 rv355 kc_1
                                have uq359 : (0 : Int) ≤ v355.toInt ∧ v355.toInt ≤ 0 := q359
                                refine lv_iconst (v := 0) hx hb dX11_arrive_211 (by decide) ?_
                                refine c_ci (As := [.ref (Z.ad 34 0), .int a178_7_339, .int (0 : Int32)]) (rest := []) x hml L341 9 0 al353 rfl (d_ksread l (X + (10 * a37_5_292.toInt + 2 + a178_8_340.toInt)) g341 0 0 a178_7_339 (0 : Int32) ⟨by omega, by omega⟩ al353 al354 (rg_w q352 rfl) (rg_w kc_0 rfl) hW) (wk_V kd_X9_read kl_X11_163 ki_X9_read ks_X9_X9_read kn_X9) rfl ⟨rfl, rfl⟩ hd_ksread ⟨Nat.le_of_ble_eq_true rfl, Nat.le_of_ble_eq_true rfl⟩ rfl hl.1 rfl (lv_room (Nat.le_of_ble_eq_true rfl)) dX11_arrive_212 (fun v361 g360 H360 k360 hp360 L360 => ?_) hcs
                                obtain ⟨hW, hi360, hp360⟩ := hp360
                                replace hW := wfP_i hW ⟨hi360, hp360⟩
                                have rv361 : rg (0) (1) v361 := hp360.2.1
                                have uv361 : (0 : Int) ≤ v361.toInt ∧ v361.toInt ≤ 1 := rv361
                                have hw362 := hp360.2.2
                                refine lv_if_eq (tgt := 230) hx hb dX11_arrive_215 (by decide) (fun c215_363 => ?_) (fun c215_363 => ?_)
                                · skip
                                  replace hW := wfP_i (wfP_l hW) (i_eq c215_363 rfl (rg_i kc_0))
                                  have ic215_363 := congrArg Int32.toInt c215_363
                                  have y364 : (0 : Int32).toInt = 0 := by decide
                                  have q365 : rg (0) (0) v361 := (rg_eq c215_363 rv361 kc_0).1
                                  have uq365 : (0 : Int) ≤ v361.toInt ∧ v361.toInt ≤ 0 := q365
                                  refine lv_aload_n hx hb dX11_arrive_230 rfl (lv_at hl 3 rfl) ?_
                                  have al366 : Z.al 5 (Z.n + sx289) := hz.2 5 (Z.n + sx289) (show (Z.n + sx289) < 2 * Z.n from (by omega))
                                  refine c_getr (a := Z.ad 5 (Z.n + sx289)) x L360 10 sx289 1 al344 rfl rfl (wk_in kf_X11_85) dX11_arrive_231 ?_
                                  refine lv_aload_n hx hb dX11_arrive_234 rfl (lv_at hl 0 rfl) ?_
                                  refine c_getr (a := Z.ad 34 0) x L360 11 i0 6 al342 rfl rfl (wk_in kf_X11_16) dX11_arrive_235 ?_
                                  refine c_ci (As := [.ref (Z.ad 34 0)]) (rest := []) x hml L360 5 (Z.n + sx289) al366 rfl (d_ktakeNext l (X + (10 * a37_5_292.toInt + 2 + a178_8_340.toInt)) g360 (Z.n + sx289) 0 ⟨by omega, by omega⟩ (show (Z.n + sx289) < 2 * Z.n from (by omega)) al354 hW) (wk_V kd_X5_takeNext kl_X11_159 ki_X5_takeNext ks_X5_X5_takeNext kn_X5) rfl ⟨rfl, rfl⟩ hd_ktakeNext ⟨Nat.le_of_ble_eq_true rfl, Nat.le_of_ble_eq_true rfl⟩ rfl hl.1 rfl (lv_room (Nat.le_of_ble_eq_true rfl)) dX11_arrive_238 (fun v368 g367 H367 k367 hp367 L367 => ?_) hcs
                                  obtain ⟨hW, hi367, hp367⟩ := hp367
                                  replace hW := wfP_i hW ⟨hi367, hp367⟩
                                  have rv368 : rg (0) (60) v368 := hp367.2.1
                                  have uv368 : (0 : Int) ≤ v368.toInt ∧ v368.toInt ≤ 60 := rv368
                                  have L369 := cL.mono L367 (show _ ≤ (X + ((10 * a37_5_292.toInt + 2 + a178_8_340.toInt) + 1)) by omega)
                                  refine lv_istore (lv' := [(7, .int v368), (0, .ref (Z.ad 11 i0)), (1, .int p1), (2, .ref (Z.ad 3 q2)), (3, .ref (Z.ad 10 sx289)), (4, .int v309), (5, .int a37_5_292), (8, .int a178_8_340)]) hx hb dX11_arrive_241 hl (by decide) rfl (fun ls hl => ?_)
                                  obtain ⟨v370, ev370, fv370⟩ := inc_ex a178_8_340 (1) (1 : Int32) (by decide)
                                  have rv370 : rg (1) (8) v370 := (rg_add ev370 q348 kc_1 rfl).1
                                  have tv370 := (rg_add ev370 q348 kc_1 rfl).2
                                  have yv370 : (1 : Int32).toInt = 1 := by decide
                                  replace hW := (wfP_i (wfP_i (wfP_i (wfP_a hW v370) ev370) rv370) (w_iadd tv370 rfl (rg_i kc_1)))
                                  refine lv_iinc (v := v370) (lv' := [(8, .int v370), (7, .int v368), (0, .ref (Z.ad 11 i0)), (1, .int p1), (2, .ref (Z.ad 3 q2)), (3, .ref (Z.ad 10 sx289)), (4, .int v309), (5, .int a37_5_292)]) hx hb dX11_arrive_243 hl (k := 7) rfl fv370 (by decide) rfl (fun ls hl => ?_)
                                  refine lv_goto (tgt := 178) hx hb dX11_arrive_246 (by decide) ?_
                                  exact ih341 _ (ms_up tv370 kc_1 q348 rfl rfl) v368 v370 Z g367 _ _ ls _ _ (mFr.tr (mFr.tr hF341 hp360.1 rfl) hp367.1 rfl) (mFi.sub (mFi.sub hI341 hi360 (mSub_eq 57 rfl (mSub_eq 58 rfl (mSub_eq 59 rfl (mSub_eq 60 rfl (mSub_eq 61 rfl (mSub_eq 62 rfl (mSub_eq 63 rfl (mSub_eq 64 rfl (mSub_eq 65 rfl mSub_nil)))))))))) hi367 (mSub_any 33 rfl (mSub_any 34 rfl (mSub_eq 84 rfl (mSub_any 86 rfl (mSub_any 87 rfl mSub_nil)))))) xa (cL.mono L369 (by omega)) hzl hcs (cJ_fr (cJ_fr hJ341 hp360.1 rfl) hp367.1 rfl) (rg_w rv368 rfl) (rg_w rv370 rfl) hW (lv_sub hl [2, 3, 4, 5, 6, 7, 1, 0] rfl) rfl
                                · skip
                                  replace hW := wfP_i (wfP_r hW) (i_ne c215_363 rfl (rg_i kc_0))
                                  have ic215_363 : v361.toInt ≠ (0 : Int32).toInt := fun z => c215_363 (Int32.toInt_inj.mp z)
                                  have y371 : (0 : Int32).toInt = 0 := by decide
                                  have q372 : rg (1) (1) v361 := rg_neL c215_363 rv361 kc_0
                                  have uq372 : (1 : Int) ≤ v361.toInt ∧ v361.toInt ≤ 1 := q372
                                  refine lv_aload_n hx hb dX11_arrive_218 rfl (lv_at hl 3 rfl) ?_
                                  refine lv_aload_n hx hb dX11_arrive_219 rfl (lv_at hl 0 rfl) ?_
                                  refine c_getr (a := Z.ad 9 0) x L360 11 i0 5 al342 rfl rfl (wk_in kf_X11_12) dX11_arrive_220 ?_
                                  refine lv_aload_n hx hb dX11_arrive_223 rfl (lv_at hl 0 rfl) ?_
                                  refine c_geti x L360 11 i0 10 362 al342 rfl rfl (wk_in kf_X11_82) dX11_arrive_224 (fun v373 ev373 wv373 => ?_)
                                  have rv373 : rg (-2147483648) (2147483647) v373 := rg_any v373
                                  replace hW := (wfP_i (wfP_i (wfP_a hW v373) ev373) rv373)
                                  have uv373 : (-2147483648 : Int) ≤ v373.toInt ∧ v373.toInt ≤ 2147483647 := rv373
                                  have sv373 : v373.toInt = (g 362 i0).toInt := congrArg Int32.toInt (ev373.trans (congrFun ((show mFr [0, 1, 2, 32, 33, 34, 35, 36, 37, 38, 39, 40, 41, 42, 43, 44, 45, 46, 47, 48, 49, 67, 108, 109, 111, 135, 136, 164, 165, 166, 167, 168, 169, 170, 171, 172, 173, 174, 175, 176, 177, 178, 179, 180, 197, 198, 225, 226, 227, 228, 229, 230, 231, 232, 233, 234, 235, 288, 289, 290, 291, 292, 293, 294, 295, 296, 323, 384, 385, 386, 421, 422, 512, 544, 576, 768, 800, 832, 864, 928, 960, 992, 1024, 1056, 1088, 1248, 1280, 1344, 1536, 1728, 1729] g g360 from (mFr.tr (mFr.tr (mFr.tr (mFr.tr (mFr.tr (mFr.tr (mFr.tr mFr.rf hF293 rfl) hp307.1 rfl) hp317.1 rfl) hp328.1 rfl) hp336.1 rfl) hF341 rfl) hp360.1 rfl)).at 362 rfl) _))
                                  obtain ⟨n374_0, n374_1, ho374, hW⟩ := wfP_e2 hW
                                  have hz0374 := hzl.2.2.2.1
                                  have hz1374 := hzl.2.2.2.2
                                  refine k_callv xa L360 (k_runU (x := ⟨"CellSwitch$Side", "came", "(LCellSwitch$Signal;I)V"⟩) (As := [.ref (Z.ad 9 0), .int v373]) (rest := []) ⟨hx, hb, hml, x.2.2.2.2.1, x.2.2.1⟩ (d_kcame_10 l (X + (10 * a37_5_292.toInt + 2 + a178_8_340.toInt)) g360 sx289 0 v373 _ n374_0 n374_1 ⟨by omega, by omega⟩ (cJ_fr hJ341 hp360.1 rfl) (by omega) (show sx289 < Z.n from (by omega)) al353 (hw362 (by omega)) hW) (va_cwU 2 x.2.2.1 (wk_U (owner := "CellSwitch$Side") kd_X8_came kl_X11_167 km_CellSwitchSide_CellSwitchSide_came ks_X10_CellSwitchSide_X8_came ki_X8_came kn_X8) rfl rfl rfl rfl (by decide +kernel) ⟨Nat.le_of_ble_eq_true rfl, Nat.le_of_ble_eq_true rfl⟩) ⟨cPreA.blind, c_recv x L360 al344 rfl, fun U hU hW => k_pre xa L360 U hU hW⟩ rfl rfl hl.1 rfl (lv_room (Nat.le_of_ble_eq_true rfl)) dX11_arrive_227 ⟨show c341 + 4 ≤ a by omega, show l341 + (36 + n374_0 + n374_1) ≤ b by omega⟩) (fun  Z g374 H374 k374 kc374 kn374 hk374 hn374 hp374 hz374 xa L374 => ?_)
                                  obtain ⟨hW, hi374, hp374⟩ := hp374
                                  replace hW := wfP_i (wfP_a (wfP_i hW ⟨hi374, hp374⟩) Z) rfl
                                  have hww374 := hp374.2.2.1
                                  have ea374_0 := hz374.2.2.1 11 i0 al342 (by omega)
                                  have ea374_1 := hz374.2.2.1 3 q2 al343 (by omega)
                                  have ea374_2 := hz374.2.2.1 10 sx289 al344 (by omega)
                                  rw [← ea374_0] at hl
                                  rw [← ea374_1] at hl
                                  rw [← ea374_2] at hl
                                  have al374_0 := hz374.2.1 11 i0 al342
                                  have al374_1 := hz374.2.1 3 q2 al343
                                  have al374_2 := hz374.2.1 10 sx289 al344
                                  have hZn374 := hz374.1
                                  have x := xa.1
                                  have hz := x.2.2.2.2.2.2.2.1
                                  have hzn := hz.1
                                  have hzl := cZl.tr hzl hz374
                                  have hcs : c341 + kc374 ≤ a ∧ l341 + kn374 ≤ b := by omega
                                  refine lv_aload_n hx hb dX11_arrive_230 rfl (lv_at hl 3 rfl) ?_
                                  have al375 : Z.al 5 (Z.n + sx289) := hz.2 5 (Z.n + sx289) (show (Z.n + sx289) < 2 * Z.n from (by omega))
                                  refine c_getr (a := Z.ad 5 (Z.n + sx289)) x L374 10 sx289 1 al374_2 rfl rfl (wk_in kf_X11_85) dX11_arrive_231 ?_
                                  refine lv_aload_n hx hb dX11_arrive_234 rfl (lv_at hl 0 rfl) ?_
                                  have al376 : Z.al 34 0 := hz.2 34 0 (show 0 < 1 from (by omega))
                                  refine c_getr (a := Z.ad 34 0) x L374 11 i0 6 al374_0 rfl rfl (wk_in kf_X11_16) dX11_arrive_235 ?_
                                  refine c_ci (As := [.ref (Z.ad 34 0)]) (rest := []) x hml L374 5 (Z.n + sx289) al375 rfl (d_ktakeNext l (X + (10 * a37_5_292.toInt + 2 + a178_8_340.toInt)) g374 (Z.n + sx289) 0 ⟨by omega, by omega⟩ (show (Z.n + sx289) < 2 * Z.n from (by omega)) al376 hW) (wk_V kd_X5_takeNext kl_X11_159 ki_X5_takeNext ks_X5_X5_takeNext kn_X5) rfl ⟨rfl, rfl⟩ hd_ktakeNext ⟨Nat.le_of_ble_eq_true rfl, Nat.le_of_ble_eq_true rfl⟩ rfl hl.1 rfl (lv_room (Nat.le_of_ble_eq_true rfl)) dX11_arrive_238 (fun v378 g377 H377 k377 hp377 L377 => ?_) hcs
                                  obtain ⟨hW, hi377, hp377⟩ := hp377
                                  replace hW := wfP_i hW ⟨hi377, hp377⟩
                                  have rv378 : rg (0) (60) v378 := hp377.2.1
                                  have uv378 : (0 : Int) ≤ v378.toInt ∧ v378.toInt ≤ 60 := rv378
                                  have L379 := cL.mono L377 (show _ ≤ (X + ((10 * a37_5_292.toInt + 2 + a178_8_340.toInt) + 1)) by omega)
                                  refine lv_istore (lv' := [(7, .int v378), (0, .ref (Z.ad 11 i0)), (1, .int p1), (2, .ref (Z.ad 3 q2)), (3, .ref (Z.ad 10 sx289)), (4, .int v309), (5, .int a37_5_292), (8, .int a178_8_340)]) hx hb dX11_arrive_241 hl (by decide) rfl (fun ls hl => ?_)
                                  obtain ⟨v380, ev380, fv380⟩ := inc_ex a178_8_340 (1) (1 : Int32) (by decide)
                                  have rv380 : rg (1) (8) v380 := (rg_add ev380 q348 kc_1 rfl).1
                                  have tv380 := (rg_add ev380 q348 kc_1 rfl).2
                                  have yv380 : (1 : Int32).toInt = 1 := by decide
                                  replace hW := (wfP_i (wfP_i (wfP_i (wfP_a hW v380) ev380) rv380) (w_iadd tv380 rfl (rg_i kc_1)))
                                  refine lv_iinc (v := v380) (lv' := [(8, .int v380), (7, .int v378), (0, .ref (Z.ad 11 i0)), (1, .int p1), (2, .ref (Z.ad 3 q2)), (3, .ref (Z.ad 10 sx289)), (4, .int v309), (5, .int a37_5_292)]) hx hb dX11_arrive_243 hl (k := 7) rfl fv380 (by decide) rfl (fun ls hl => ?_)
                                  refine lv_goto (tgt := 178) hx hb dX11_arrive_246 (by decide) ?_
                                  exact ih341 _ (ms_up tv380 kc_1 q348 rfl rfl) v378 v380 Z g377 _ _ ls _ _ (mFr.tr (mFr.tr (mFr.tr hF341 hp360.1 rfl) hp374.1 rfl) hp377.1 rfl) (mFi.sub (mFi.sub (mFi.sub hI341 hi360 (mSub_eq 57 rfl (mSub_eq 58 rfl (mSub_eq 59 rfl (mSub_eq 60 rfl (mSub_eq 61 rfl (mSub_eq 62 rfl (mSub_eq 63 rfl (mSub_eq 64 rfl (mSub_eq 65 rfl mSub_nil)))))))))) hi374 (mSub_any 3 rfl (mSub_any 4 rfl (mSub_any 5 rfl (mSub_any 6 rfl (mSub_any 7 rfl (mSub_any 8 rfl (mSub_any 9 rfl (mSub_any 10 rfl (mSub_any 11 rfl (mSub_any 12 rfl (mSub_any 13 rfl (mSub_any 14 rfl (mSub_any 15 rfl (mSub_any 16 rfl (mSub_any 17 rfl (mSub_any 18 rfl (mSub_any 19 rfl (mSub_any 20 rfl (mSub_any 45 rfl (mSub_any 66 rfl (mSub_any 67 rfl (mSub_any 68 rfl (mSub_any 69 rfl (mSub_any 77 rfl (mSub_any 78 rfl (mSub_any 89 rfl (mSub_any 90 rfl mSub_nil)))))))))))))))))))))))))))) hi377 (mSub_any 33 rfl (mSub_any 34 rfl (mSub_eq 84 rfl (mSub_any 86 rfl (mSub_any 87 rfl mSub_nil)))))) xa (cL.mono L379 (by omega)) hzl hcs (cJ_fr hp374.2.1 hp377.1 rfl) (rg_w rv378 rfl) (rg_w rv380 rfl) hW (lv_sub hl [2, 3, 4, 5, 6, 7, 1, 0] rfl) rfl
                              · skip
                                replace hW := wfP_i (wfP_r hW) (i_eq c204_357 rfl (rg_i kc_1))
                                have ic204_357 := congrArg Int32.toInt c204_357
                                have y381 : (1 : Int32).toInt = 1 := by decide
                                have q382 : rg (1) (1) v355 := (rg_eq c204_357 rv355 kc_1).1
                                have uq382 : (1 : Int) ≤ v355.toInt ∧ v355.toInt ≤ 1 := q382
                                refine lv_iconst (v := 1) hx hb dX11_arrive_207 (by decide) ?_
                                refine lv_goto (tgt := 212) hx hb dX11_arrive_208 (by decide) ?_
                                refine c_ci (As := [.ref (Z.ad 34 0), .int a178_7_339, .int (1 : Int32)]) (rest := []) x hml L341 9 0 al353 rfl (d_ksread l (X + (10 * a37_5_292.toInt + 2 + a178_8_340.toInt)) g341 0 0 a178_7_339 (1 : Int32) ⟨by omega, by omega⟩ al353 al354 (rg_w q352 rfl) (rg_w kc_1 rfl) hW) (wk_V kd_X9_read kl_X11_163 ki_X9_read ks_X9_X9_read kn_X9) rfl ⟨rfl, rfl⟩ hd_ksread ⟨Nat.le_of_ble_eq_true rfl, Nat.le_of_ble_eq_true rfl⟩ rfl hl.1 rfl (lv_room (Nat.le_of_ble_eq_true rfl)) dX11_arrive_212 (fun v384 g383 H383 k383 hp383 L383 => ?_) hcs
                                obtain ⟨hW, hi383, hp383⟩ := hp383
                                replace hW := wfP_i hW ⟨hi383, hp383⟩
                                have rv384 : rg (0) (1) v384 := hp383.2.1
                                have uv384 : (0 : Int) ≤ v384.toInt ∧ v384.toInt ≤ 1 := rv384
                                have hw385 := hp383.2.2
                                refine lv_if_eq (tgt := 230) hx hb dX11_arrive_215 (by decide) (fun c215_386 => ?_) (fun c215_386 => ?_)
                                · skip
                                  replace hW := wfP_i (wfP_l hW) (i_eq c215_386 rfl (rg_i kc_0))
                                  have ic215_386 := congrArg Int32.toInt c215_386
                                  have y387 : (0 : Int32).toInt = 0 := by decide
                                  have q388 : rg (0) (0) v384 := (rg_eq c215_386 rv384 kc_0).1
                                  have uq388 : (0 : Int) ≤ v384.toInt ∧ v384.toInt ≤ 0 := q388
                                  refine lv_aload_n hx hb dX11_arrive_230 rfl (lv_at hl 3 rfl) ?_
                                  have al389 : Z.al 5 (Z.n + sx289) := hz.2 5 (Z.n + sx289) (show (Z.n + sx289) < 2 * Z.n from (by omega))
                                  refine c_getr (a := Z.ad 5 (Z.n + sx289)) x L383 10 sx289 1 al344 rfl rfl (wk_in kf_X11_85) dX11_arrive_231 ?_
                                  refine lv_aload_n hx hb dX11_arrive_234 rfl (lv_at hl 0 rfl) ?_
                                  refine c_getr (a := Z.ad 34 0) x L383 11 i0 6 al342 rfl rfl (wk_in kf_X11_16) dX11_arrive_235 ?_
                                  refine c_ci (As := [.ref (Z.ad 34 0)]) (rest := []) x hml L383 5 (Z.n + sx289) al389 rfl (d_ktakeNext l (X + (10 * a37_5_292.toInt + 2 + a178_8_340.toInt)) g383 (Z.n + sx289) 0 ⟨by omega, by omega⟩ (show (Z.n + sx289) < 2 * Z.n from (by omega)) al354 hW) (wk_V kd_X5_takeNext kl_X11_159 ki_X5_takeNext ks_X5_X5_takeNext kn_X5) rfl ⟨rfl, rfl⟩ hd_ktakeNext ⟨Nat.le_of_ble_eq_true rfl, Nat.le_of_ble_eq_true rfl⟩ rfl hl.1 rfl (lv_room (Nat.le_of_ble_eq_true rfl)) dX11_arrive_238 (fun v391 g390 H390 k390 hp390 L390 => ?_) hcs
                                  obtain ⟨hW, hi390, hp390⟩ := hp390
                                  replace hW := wfP_i hW ⟨hi390, hp390⟩
                                  have rv391 : rg (0) (60) v391 := hp390.2.1
                                  have uv391 : (0 : Int) ≤ v391.toInt ∧ v391.toInt ≤ 60 := rv391
                                  have L392 := cL.mono L390 (show _ ≤ (X + ((10 * a37_5_292.toInt + 2 + a178_8_340.toInt) + 1)) by omega)
                                  refine lv_istore (lv' := [(7, .int v391), (0, .ref (Z.ad 11 i0)), (1, .int p1), (2, .ref (Z.ad 3 q2)), (3, .ref (Z.ad 10 sx289)), (4, .int v309), (5, .int a37_5_292), (8, .int a178_8_340)]) hx hb dX11_arrive_241 hl (by decide) rfl (fun ls hl => ?_)
                                  obtain ⟨v393, ev393, fv393⟩ := inc_ex a178_8_340 (1) (1 : Int32) (by decide)
                                  have rv393 : rg (1) (8) v393 := (rg_add ev393 q348 kc_1 rfl).1
                                  have tv393 := (rg_add ev393 q348 kc_1 rfl).2
                                  have yv393 : (1 : Int32).toInt = 1 := by decide
                                  replace hW := (wfP_i (wfP_i (wfP_i (wfP_a hW v393) ev393) rv393) (w_iadd tv393 rfl (rg_i kc_1)))
                                  refine lv_iinc (v := v393) (lv' := [(8, .int v393), (7, .int v391), (0, .ref (Z.ad 11 i0)), (1, .int p1), (2, .ref (Z.ad 3 q2)), (3, .ref (Z.ad 10 sx289)), (4, .int v309), (5, .int a37_5_292)]) hx hb dX11_arrive_243 hl (k := 7) rfl fv393 (by decide) rfl (fun ls hl => ?_)
                                  refine lv_goto (tgt := 178) hx hb dX11_arrive_246 (by decide) ?_
                                  exact ih341 _ (ms_up tv393 kc_1 q348 rfl rfl) v391 v393 Z g390 _ _ ls _ _ (mFr.tr (mFr.tr hF341 hp383.1 rfl) hp390.1 rfl) (mFi.sub (mFi.sub hI341 hi383 (mSub_eq 57 rfl (mSub_eq 58 rfl (mSub_eq 59 rfl (mSub_eq 60 rfl (mSub_eq 61 rfl (mSub_eq 62 rfl (mSub_eq 63 rfl (mSub_eq 64 rfl (mSub_eq 65 rfl mSub_nil)))))))))) hi390 (mSub_any 33 rfl (mSub_any 34 rfl (mSub_eq 84 rfl (mSub_any 86 rfl (mSub_any 87 rfl mSub_nil)))))) xa (cL.mono L392 (by omega)) hzl hcs (cJ_fr (cJ_fr hJ341 hp383.1 rfl) hp390.1 rfl) (rg_w rv391 rfl) (rg_w rv393 rfl) hW (lv_sub hl [2, 3, 4, 5, 6, 7, 1, 0] rfl) rfl
                                · skip
                                  replace hW := wfP_i (wfP_r hW) (i_ne c215_386 rfl (rg_i kc_0))
                                  have ic215_386 : v384.toInt ≠ (0 : Int32).toInt := fun z => c215_386 (Int32.toInt_inj.mp z)
                                  have y394 : (0 : Int32).toInt = 0 := by decide
                                  have q395 : rg (1) (1) v384 := rg_neL c215_386 rv384 kc_0
                                  have uq395 : (1 : Int) ≤ v384.toInt ∧ v384.toInt ≤ 1 := q395
                                  refine lv_aload_n hx hb dX11_arrive_218 rfl (lv_at hl 3 rfl) ?_
                                  refine lv_aload_n hx hb dX11_arrive_219 rfl (lv_at hl 0 rfl) ?_
                                  refine c_getr (a := Z.ad 9 0) x L383 11 i0 5 al342 rfl rfl (wk_in kf_X11_12) dX11_arrive_220 ?_
                                  refine lv_aload_n hx hb dX11_arrive_223 rfl (lv_at hl 0 rfl) ?_
                                  refine c_geti x L383 11 i0 10 362 al342 rfl rfl (wk_in kf_X11_82) dX11_arrive_224 (fun v396 ev396 wv396 => ?_)
                                  have rv396 : rg (-2147483648) (2147483647) v396 := rg_any v396
                                  replace hW := (wfP_i (wfP_i (wfP_a hW v396) ev396) rv396)
                                  have uv396 : (-2147483648 : Int) ≤ v396.toInt ∧ v396.toInt ≤ 2147483647 := rv396
                                  have sv396 : v396.toInt = (g 362 i0).toInt := congrArg Int32.toInt (ev396.trans (congrFun ((show mFr [0, 1, 2, 32, 33, 34, 35, 36, 37, 38, 39, 40, 41, 42, 43, 44, 45, 46, 47, 48, 49, 67, 108, 109, 111, 135, 136, 164, 165, 166, 167, 168, 169, 170, 171, 172, 173, 174, 175, 176, 177, 178, 179, 180, 197, 198, 225, 226, 227, 228, 229, 230, 231, 232, 233, 234, 235, 288, 289, 290, 291, 292, 293, 294, 295, 296, 323, 384, 385, 386, 421, 422, 512, 544, 576, 768, 800, 832, 864, 928, 960, 992, 1024, 1056, 1088, 1248, 1280, 1344, 1536, 1728, 1729] g g383 from (mFr.tr (mFr.tr (mFr.tr (mFr.tr (mFr.tr (mFr.tr (mFr.tr mFr.rf hF293 rfl) hp307.1 rfl) hp317.1 rfl) hp328.1 rfl) hp336.1 rfl) hF341 rfl) hp383.1 rfl)).at 362 rfl) _))
                                  obtain ⟨n397_0, n397_1, ho397, hW⟩ := wfP_e2 hW
                                  have hz0397 := hzl.2.2.2.1
                                  have hz1397 := hzl.2.2.2.2
                                  refine k_callv xa L383 (k_runU (x := ⟨"CellSwitch$Side", "came", "(LCellSwitch$Signal;I)V"⟩) (As := [.ref (Z.ad 9 0), .int v396]) (rest := []) ⟨hx, hb, hml, x.2.2.2.2.1, x.2.2.1⟩ (d_kcame_10 l (X + (10 * a37_5_292.toInt + 2 + a178_8_340.toInt)) g383 sx289 0 v396 _ n397_0 n397_1 ⟨by omega, by omega⟩ (cJ_fr hJ341 hp383.1 rfl) (by omega) (show sx289 < Z.n from (by omega)) al353 (hw385 (by omega)) hW) (va_cwU 2 x.2.2.1 (wk_U (owner := "CellSwitch$Side") kd_X8_came kl_X11_167 km_CellSwitchSide_CellSwitchSide_came ks_X10_CellSwitchSide_X8_came ki_X8_came kn_X8) rfl rfl rfl rfl (by decide +kernel) ⟨Nat.le_of_ble_eq_true rfl, Nat.le_of_ble_eq_true rfl⟩) ⟨cPreA.blind, c_recv x L383 al344 rfl, fun U hU hW => k_pre xa L383 U hU hW⟩ rfl rfl hl.1 rfl (lv_room (Nat.le_of_ble_eq_true rfl)) dX11_arrive_227 ⟨show c341 + 4 ≤ a by omega, show l341 + (36 + n397_0 + n397_1) ≤ b by omega⟩) (fun  Z g397 H397 k397 kc397 kn397 hk397 hn397 hp397 hz397 xa L397 => ?_)
                                  obtain ⟨hW, hi397, hp397⟩ := hp397
                                  replace hW := wfP_i (wfP_a (wfP_i hW ⟨hi397, hp397⟩) Z) rfl
                                  have hww397 := hp397.2.2.1
                                  have ea397_0 := hz397.2.2.1 11 i0 al342 (by omega)
                                  have ea397_1 := hz397.2.2.1 3 q2 al343 (by omega)
                                  have ea397_2 := hz397.2.2.1 10 sx289 al344 (by omega)
                                  rw [← ea397_0] at hl
                                  rw [← ea397_1] at hl
                                  rw [← ea397_2] at hl
                                  have al397_0 := hz397.2.1 11 i0 al342
                                  have al397_1 := hz397.2.1 3 q2 al343
                                  have al397_2 := hz397.2.1 10 sx289 al344
                                  have hZn397 := hz397.1
                                  have x := xa.1
                                  have hz := x.2.2.2.2.2.2.2.1
                                  have hzn := hz.1
                                  have hzl := cZl.tr hzl hz397
                                  have hcs : c341 + kc397 ≤ a ∧ l341 + kn397 ≤ b := by omega
                                  refine lv_aload_n hx hb dX11_arrive_230 rfl (lv_at hl 3 rfl) ?_
                                  have al398 : Z.al 5 (Z.n + sx289) := hz.2 5 (Z.n + sx289) (show (Z.n + sx289) < 2 * Z.n from (by omega))
                                  refine c_getr (a := Z.ad 5 (Z.n + sx289)) x L397 10 sx289 1 al397_2 rfl rfl (wk_in kf_X11_85) dX11_arrive_231 ?_
                                  refine lv_aload_n hx hb dX11_arrive_234 rfl (lv_at hl 0 rfl) ?_
                                  have al399 : Z.al 34 0 := hz.2 34 0 (show 0 < 1 from (by omega))
                                  refine c_getr (a := Z.ad 34 0) x L397 11 i0 6 al397_0 rfl rfl (wk_in kf_X11_16) dX11_arrive_235 ?_
                                  refine c_ci (As := [.ref (Z.ad 34 0)]) (rest := []) x hml L397 5 (Z.n + sx289) al398 rfl (d_ktakeNext l (X + (10 * a37_5_292.toInt + 2 + a178_8_340.toInt)) g397 (Z.n + sx289) 0 ⟨by omega, by omega⟩ (show (Z.n + sx289) < 2 * Z.n from (by omega)) al399 hW) (wk_V kd_X5_takeNext kl_X11_159 ki_X5_takeNext ks_X5_X5_takeNext kn_X5) rfl ⟨rfl, rfl⟩ hd_ktakeNext ⟨Nat.le_of_ble_eq_true rfl, Nat.le_of_ble_eq_true rfl⟩ rfl hl.1 rfl (lv_room (Nat.le_of_ble_eq_true rfl)) dX11_arrive_238 (fun v401 g400 H400 k400 hp400 L400 => ?_) hcs
                                  obtain ⟨hW, hi400, hp400⟩ := hp400
                                  replace hW := wfP_i hW ⟨hi400, hp400⟩
                                  have rv401 : rg (0) (60) v401 := hp400.2.1
                                  have uv401 : (0 : Int) ≤ v401.toInt ∧ v401.toInt ≤ 60 := rv401
                                  have L402 := cL.mono L400 (show _ ≤ (X + ((10 * a37_5_292.toInt + 2 + a178_8_340.toInt) + 1)) by omega)
                                  refine lv_istore (lv' := [(7, .int v401), (0, .ref (Z.ad 11 i0)), (1, .int p1), (2, .ref (Z.ad 3 q2)), (3, .ref (Z.ad 10 sx289)), (4, .int v309), (5, .int a37_5_292), (8, .int a178_8_340)]) hx hb dX11_arrive_241 hl (by decide) rfl (fun ls hl => ?_)
                                  obtain ⟨v403, ev403, fv403⟩ := inc_ex a178_8_340 (1) (1 : Int32) (by decide)
                                  have rv403 : rg (1) (8) v403 := (rg_add ev403 q348 kc_1 rfl).1
                                  have tv403 := (rg_add ev403 q348 kc_1 rfl).2
                                  have yv403 : (1 : Int32).toInt = 1 := by decide
                                  replace hW := (wfP_i (wfP_i (wfP_i (wfP_a hW v403) ev403) rv403) (w_iadd tv403 rfl (rg_i kc_1)))
                                  refine lv_iinc (v := v403) (lv' := [(8, .int v403), (7, .int v401), (0, .ref (Z.ad 11 i0)), (1, .int p1), (2, .ref (Z.ad 3 q2)), (3, .ref (Z.ad 10 sx289)), (4, .int v309), (5, .int a37_5_292)]) hx hb dX11_arrive_243 hl (k := 7) rfl fv403 (by decide) rfl (fun ls hl => ?_)
                                  refine lv_goto (tgt := 178) hx hb dX11_arrive_246 (by decide) ?_
                                  exact ih341 _ (ms_up tv403 kc_1 q348 rfl rfl) v401 v403 Z g400 _ _ ls _ _ (mFr.tr (mFr.tr (mFr.tr hF341 hp383.1 rfl) hp397.1 rfl) hp400.1 rfl) (mFi.sub (mFi.sub (mFi.sub hI341 hi383 (mSub_eq 57 rfl (mSub_eq 58 rfl (mSub_eq 59 rfl (mSub_eq 60 rfl (mSub_eq 61 rfl (mSub_eq 62 rfl (mSub_eq 63 rfl (mSub_eq 64 rfl (mSub_eq 65 rfl mSub_nil)))))))))) hi397 (mSub_any 3 rfl (mSub_any 4 rfl (mSub_any 5 rfl (mSub_any 6 rfl (mSub_any 7 rfl (mSub_any 8 rfl (mSub_any 9 rfl (mSub_any 10 rfl (mSub_any 11 rfl (mSub_any 12 rfl (mSub_any 13 rfl (mSub_any 14 rfl (mSub_any 15 rfl (mSub_any 16 rfl (mSub_any 17 rfl (mSub_any 18 rfl (mSub_any 19 rfl (mSub_any 20 rfl (mSub_any 45 rfl (mSub_any 66 rfl (mSub_any 67 rfl (mSub_any 68 rfl (mSub_any 69 rfl (mSub_any 77 rfl (mSub_any 78 rfl (mSub_any 89 rfl (mSub_any 90 rfl mSub_nil)))))))))))))))))))))))))))) hi400 (mSub_any 33 rfl (mSub_any 34 rfl (mSub_eq 84 rfl (mSub_any 86 rfl (mSub_any 87 rfl mSub_nil)))))) xa (cL.mono L402 (by omega)) hzl hcs (cJ_fr hp397.2.1 hp400.1 rfl) (rg_w rv401 rfl) (rg_w rv403 rfl) hW (lv_sub hl [2, 3, 4, 5, 6, 7, 1, 0] rfl) rfl
                      have y404 : (0 : Int32).toInt = 0 := by decide
                      exact j178_341 _ v337 (0 : Int32) Z g336 _ _ ls _ _ mFr.rf mFi.rf xa (cL.mono L338 (by omega)) hzl hcs (cJ_fr (cJ_fr hp317.2.2.1 hp328.1 rfl) hp336.1 rfl) (rg_w rv337 rfl) (rg_w kc_0 rfl) hW (lv_sub hl [4, 5, 6, 7, 3, 8, 1, 0] rfl) rfl
                    · skip
                      replace hW := wfP_i (wfP_r hW) (i_eq c145_332 rfl (rg_i kc_2))
                      have ic145_332 := congrArg Int32.toInt c145_332
                      have y405 : (2 : Int32).toInt = 2 := by decide
                      have q406 : rg (2) (2) v329 := (rg_eq c145_332 rv329 kc_2).1
                      have uq406 : (2 : Int) ≤ v329.toInt ∧ v329.toInt ≤ 2 := q406
                      refine lv_aload_n hx hb dX11_arrive_148 rfl (lv_at hl 5 rfl) ?_
                      refine c_getr (a := Z.ad 5 (Z.n + sx289)) x L328 10 sx289 1 al317_2 rfl rfl (wk_in kf_X11_85) dX11_arrive_149 ?_
                      refine lv_iconst (v := 3) hx hb dX11_arrive_152 (by decide) ?_
                      refine lv_bipush (v := 9) hx hb dX11_arrive_153 (by decide) ?_
                      refine lv_aload_n hx hb dX11_arrive_155 rfl (lv_at hl 2 rfl) ?_
                      refine c_geti x L328 11 i0 10 362 al317_0 rfl rfl (wk_in kf_X11_82) dX11_arrive_156 (fun v407 ev407 wv407 => ?_)
                      refine m_top (((mm_fr ev327 hp328.1 rfl)).trans ev407.symm) ?_
                      refine c_cv (As := [.int (3 : Int32), .int (9 : Int32), .int v327]) (rest := []) x hml L328 5 (Z.n + sx289) al323 rfl (d_kask l (X + ((10 * a37_5_292.toInt) + 1)) g328 (Z.n + sx289) (3 : Int32) (9 : Int32) v327 ⟨by omega, by omega⟩ (show (Z.n + sx289) < 2 * Z.n from (by omega)) (rg_w kc_3 rfl) hW) (wk_V kd_X5_ask kl_X11_155 ki_X5_ask ks_X5_X5_ask kn_X5) rfl ⟨rfl, rfl⟩ hd_kask ⟨Nat.le_of_ble_eq_true rfl, Nat.le_of_ble_eq_true rfl⟩ rfl hl.1 rfl (lv_room (Nat.le_of_ble_eq_true rfl)) dX11_arrive_159 (fun  g408 H408 k408 hp408 L408 => ?_) hcs
                      obtain ⟨hW, hi408, hp408⟩ := hp408
                      replace hW := wfP_i hW ⟨hi408, hp408⟩
                      refine lv_aload_n hx hb dX11_arrive_162 rfl (lv_at hl 5 rfl) ?_
                      refine c_getr (a := Z.ad 5 (Z.n + sx289)) x L408 10 sx289 1 al317_2 rfl rfl (wk_in kf_X11_85) dX11_arrive_163 ?_
                      refine lv_aload_n hx hb dX11_arrive_166 rfl (lv_at hl 2 rfl) ?_
                      have al409 : Z.al 34 0 := hz.2 34 0 (show 0 < 1 from (by omega))
                      refine c_getr (a := Z.ad 34 0) x L408 11 i0 6 al317_0 rfl rfl (wk_in kf_X11_16) dX11_arrive_167 ?_
                      refine c_ci (As := [.ref (Z.ad 34 0)]) (rest := []) x hml L408 5 (Z.n + sx289) al323 rfl (d_ktakeNext l (X + ((10 * a37_5_292.toInt) + 1)) g408 (Z.n + sx289) 0 ⟨by omega, by omega⟩ (show (Z.n + sx289) < 2 * Z.n from (by omega)) al409 hW) (wk_V kd_X5_takeNext kl_X11_159 ki_X5_takeNext ks_X5_X5_takeNext kn_X5) rfl ⟨rfl, rfl⟩ hd_ktakeNext ⟨Nat.le_of_ble_eq_true rfl, Nat.le_of_ble_eq_true rfl⟩ rfl hl.1 rfl (lv_room (Nat.le_of_ble_eq_true rfl)) dX11_arrive_170 (fun v411 g410 H410 k410 hp410 L410 => ?_) hcs
                      obtain ⟨hW, hi410, hp410⟩ := hp410
                      replace hW := wfP_i hW ⟨hi410, hp410⟩
                      have rv411 : rg (0) (60) v411 := hp410.2.1
                      have uv411 : (0 : Int) ≤ v411.toInt ∧ v411.toInt ≤ 60 := rv411
                      have L412 := cL.mono L410 (show _ ≤ (X + (((10 * a37_5_292.toInt) + 1) + 1)) by omega)
                      refine lv_istore (lv' := [(7, .int v411), (6, .int v329), (4, .int v309), (0, .ref (Z.ad 11 i0)), (1, .int p1), (2, .ref (Z.ad 3 q2)), (3, .ref (Z.ad 10 sx289)), (5, .int a37_5_292)]) hx hb dX11_arrive_173 hl (by decide) rfl (fun ls hl => ?_)
                      refine lv_iconst (v := 0) hx hb dX11_arrive_175 (by decide) ?_
                      refine lv_istore (lv' := [(8, .int (0 : Int32)), (7, .int v411), (6, .int v329), (4, .int v309), (0, .ref (Z.ad 11 i0)), (1, .int p1), (2, .ref (Z.ad 3 q2)), (3, .ref (Z.ad 10 sx289)), (5, .int a37_5_292)]) hx hb dX11_arrive_176 hl (by decide) rfl (fun ls hl => ?_)
                      obtain ⟨P415, hP415, hW⟩ := wfP_ex hW
                      have j178_415 : ∀ (n : Nat) (a178_7_413 a178_8_414 : Int32) (Z : cZ) (g415 : mSt) (H415 : Heap) (k415 : List Loc) (ls : Array Slot) (c415 l415 : Nat), mFr [32, 33, 34, 35, 36, 37, 38, 39, 40, 41, 42, 43, 44, 45, 46, 47, 48, 49, 135, 170, 171, 198, 288, 289, 290, 291, 292, 293, 294, 295, 296, 323, 384, 385, 386, 832, 864, 1088, 1280, 1344, 1536, 1728, 1729] g410 g415 → mFi (im_karrive i0 p1 q2) g410 g415 → cXA p c cX11_arrive s args (wk (Cond.code yX11_arrive cX11_arrive 9 none)) m G Z A RX11 H0 → cL G Z A H0 (X + (10 * a37_5_292.toInt + 2 + a178_8_414.toInt)) g415 H415 k415 → cZl Z0 Z c415 l415 → (c415 ≤ a ∧ l415 ≤ b) → cJ Z g415 → rg (0) (60) a178_7_413 → rg (0) (8) a178_8_414 → wfP (P415 a178_7_413 a178_8_414 Z g415) → lv_has ls 9 [(0, .ref (Z.ad 11 i0)), (1, .int p1), (2, .ref (Z.ad 3 q2)), (3, .ref (Z.ad 10 sx289)), (4, .int v309), (5, .int a37_5_292), (7, .int a178_7_413), (8, .int a178_8_414)] → ((8 : Int) - a178_8_414.toInt).toNat = n → W p l e (rm_karrive a b) s m args below meth c H415 k415 c415 l415 Q (F0 m 178 ls []) := by
                        intro n
                        induction n using Nat.strongRecOn with
                        | _ n ih415 =>
                          intro a178_7_413 a178_8_414 Z g415 H415 k415 ls c415 l415 hF415 hI415 xa L415 hzl hcs hJ415 ra178_7_413 ra178_8_414 hW hl hn415
                          subst hn415
                          have x := xa.1
                          have hz := x.2.2.2.2.2.2.2.1
                          have hzn := hz.1
                          have hZn415 := hzl.1
                          replace hW := wfP_i (wfP_i (wfP_i (wfP_i (wfP_i (wfP_i (wfP_i (wfP_a (wfP_a (wfP_a (wfP_a hP415 a178_7_413) a178_8_414) Z) g415) hF415) hI415) hJ415) hzl.1) ra178_7_413) ra178_8_414) hW
                          have ua178_7_413 : (0 : Int) ≤ a178_7_413.toInt ∧ a178_7_413.toInt ≤ 60 := ra178_7_413
                          have ua178_8_414 : (0 : Int) ≤ a178_8_414.toInt ∧ a178_8_414.toInt ≤ 8 := ra178_8_414
                          have al416 := hzl.2.1 11 i0 hal0
                          have al417 := hzl.2.1 3 q2 hq2
                          have al418 : Z.al 10 sx289 := hz.2 10 sx289 (show sx289 < Z.n from (by omega))
                          refine lv_iload hx hb dX11_arrive_178 (lv_at hl 7 rfl) ?_
                          refine lv_bipush (v := 8) hx hb dX11_arrive_180 (by decide) ?_
                          refine lv_icmp_ge (tgt := 249) hx hb dX11_arrive_182 (by decide) (fun c182_419 => ?_) (fun c182_419 => ?_)
                          · skip
                            replace hW := wfP_i (wfP_l hW) (i_le c182_419 (rg_i kc_8) rfl)
                            have ic182_419 := Int32.le_iff_toInt_le.mp c182_419
                            have q420 : rg (8) (8) a178_8_414 := (rg_le c182_419 kc_8 ra178_8_414).2
                            have uq420 : (8 : Int) ≤ a178_8_414.toInt ∧ a178_8_414.toInt ≤ 8 := q420
                            obtain ⟨v421, ev421, fv421⟩ := inc_ex a37_5_292 (1) (1 : Int32) (by decide)
                            have rv421 : rg (1) (212) v421 := (rg_add ev421 q299 kc_1 rfl).1
                            have tv421 := (rg_add ev421 q299 kc_1 rfl).2
                            have yv421 : (1 : Int32).toInt = 1 := by decide
                            replace hW := (wfP_i (wfP_i (wfP_i (wfP_a hW v421) ev421) rv421) (w_iadd tv421 rfl (rg_i kc_1)))
                            refine lv_iinc (v := v421) (lv' := [(5, .int v421), (0, .ref (Z.ad 11 i0)), (1, .int p1), (2, .ref (Z.ad 3 q2)), (3, .ref (Z.ad 10 sx289)), (4, .int v309), (7, .int a178_7_413), (8, .int a178_8_414)]) hx hb dX11_arrive_249 hl (k := 5) rfl fv421 (by decide) rfl (fun ls hl => ?_)
                            refine lv_goto (tgt := 37) hx hb dX11_arrive_252 (by decide) ?_
                            exact ih293 _ (ms_up tv421 kc_1 q299 rfl rfl) v309 v421 Z g415 _ _ ls _ _ (mFr.tr (mFr.tr (mFr.tr (mFr.tr (mFr.tr (mFr.tr hF293 hp307.1 rfl) hp317.1 rfl) hp328.1 rfl) hp408.1 rfl) hp410.1 rfl) hF415 rfl) (mFi.tr (mFi.sub (mFi.sub (mFi.sub (mFi.sub (mFi.sub hI293 hi307 (mSub_eq 46 rfl (mSub_eq 47 rfl (mSub_eq 48 rfl (mSub_eq 49 rfl (mSub_eq 50 rfl (mSub_eq 51 rfl (mSub_eq 52 rfl (mSub_eq 53 rfl (mSub_eq 54 rfl (mSub_eq 55 rfl (mSub_eq 56 rfl (mSub_eq 76 rfl mSub_nil))))))))))))) hi317 (mSub_any 0 rfl (mSub_any 1 rfl (mSub_any 2 rfl (mSub_any 17 rfl (mSub_any 21 rfl (mSub_any 22 rfl (mSub_eq 23 rfl (mSub_any 26 rfl (mSub_any 72 rfl (mSub_any 73 rfl (mSub_any 74 rfl (mSub_any 80 rfl (mSub_any 81 rfl (mSub_any 82 rfl (mSub_any 83 rfl mSub_nil)))))))))))))))) hi328 (mSub_any 21 rfl (mSub_any 22 rfl (mSub_any 24 rfl (mSub_any 27 rfl (mSub_any 28 rfl (mSub_any 29 rfl (mSub_any 30 rfl (mSub_any 31 rfl (mSub_any 32 rfl (mSub_any 33 rfl (mSub_any 34 rfl (mSub_any 35 rfl (mSub_any 37 rfl (mSub_any 38 rfl (mSub_any 41 rfl (mSub_any 42 rfl (mSub_any 43 rfl (mSub_any 44 rfl (mSub_any 45 rfl (mSub_any 70 rfl (mSub_any 70 rfl (mSub_any 71 rfl (mSub_any 71 rfl (mSub_any 73 rfl (mSub_any 74 rfl (mSub_any 75 rfl (mSub_any 78 rfl (mSub_any 79 rfl (mSub_any 85 rfl (mSub_any 86 rfl (mSub_any 86 rfl (mSub_any 87 rfl (mSub_any 87 rfl mSub_nil)))))))))))))))))))))))))))))))))) hi408 (mSub_any 21 rfl (mSub_any 22 rfl (mSub_any 24 rfl (mSub_any 27 rfl (mSub_any 36 rfl (mSub_any 39 rfl (mSub_any 40 rfl (mSub_any 41 rfl (mSub_any 73 rfl (mSub_any 74 rfl (mSub_any 75 rfl mSub_nil)))))))))))) hi410 (mSub_any 33 rfl (mSub_any 34 rfl (mSub_eq 84 rfl (mSub_any 86 rfl (mSub_any 87 rfl mSub_nil)))))) hI415) xa (cL.mono L415 (by omega)) hzl hcs hJ415 (rg_w rv309 rfl) (rg_w rv421 rfl) hW (lv_sub hl [1, 2, 3, 4, 5, 0] rfl) rfl
                          · skip
                            replace hW := wfP_i (wfP_r hW) (i_lt (rg_nle c182_419) rfl (rg_i kc_8))
                            have ic182_419 := Int32.lt_iff_toInt_lt.mp (rg_nle c182_419)
                            have q422 : rg (0) (7) a178_8_414 := (rg_lt (rg_nle c182_419) ra178_8_414 kc_8).1
                            have uq422 : (0 : Int) ≤ a178_8_414.toInt ∧ a178_8_414.toInt ≤ 7 := q422
                            refine lv_iload hx hb dX11_arrive_185 (lv_at hl 6 rfl) ?_
                            refine lv_if_le (tgt := 249) hx hb dX11_arrive_187 (by decide) (fun c187_423 => ?_) (fun c187_423 => ?_)
                            · skip
                              replace hW := wfP_i (wfP_l hW) (i_le c187_423 rfl (rg_i kc_0))
                              have ic187_423 := Int32.le_iff_toInt_le.mp c187_423
                              have q424 : rg (0) (0) a178_7_413 := (rg_le c187_423 ra178_7_413 kc_0).1
                              have uq424 : (0 : Int) ≤ a178_7_413.toInt ∧ a178_7_413.toInt ≤ 0 := q424
                              obtain ⟨v425, ev425, fv425⟩ := inc_ex a37_5_292 (1) (1 : Int32) (by decide)
                              have rv425 : rg (1) (212) v425 := (rg_add ev425 q299 kc_1 rfl).1
                              have tv425 := (rg_add ev425 q299 kc_1 rfl).2
                              have yv425 : (1 : Int32).toInt = 1 := by decide
                              replace hW := (wfP_i (wfP_i (wfP_i (wfP_a hW v425) ev425) rv425) (w_iadd tv425 rfl (rg_i kc_1)))
                              refine lv_iinc (v := v425) (lv' := [(5, .int v425), (0, .ref (Z.ad 11 i0)), (1, .int p1), (2, .ref (Z.ad 3 q2)), (3, .ref (Z.ad 10 sx289)), (4, .int v309), (7, .int a178_7_413), (8, .int a178_8_414)]) hx hb dX11_arrive_249 hl (k := 5) rfl fv425 (by decide) rfl (fun ls hl => ?_)
                              refine lv_goto (tgt := 37) hx hb dX11_arrive_252 (by decide) ?_
                              exact ih293 _ (ms_up tv425 kc_1 q299 rfl rfl) v309 v425 Z g415 _ _ ls _ _ (mFr.tr (mFr.tr (mFr.tr (mFr.tr (mFr.tr (mFr.tr hF293 hp307.1 rfl) hp317.1 rfl) hp328.1 rfl) hp408.1 rfl) hp410.1 rfl) hF415 rfl) (mFi.tr (mFi.sub (mFi.sub (mFi.sub (mFi.sub (mFi.sub hI293 hi307 (mSub_eq 46 rfl (mSub_eq 47 rfl (mSub_eq 48 rfl (mSub_eq 49 rfl (mSub_eq 50 rfl (mSub_eq 51 rfl (mSub_eq 52 rfl (mSub_eq 53 rfl (mSub_eq 54 rfl (mSub_eq 55 rfl (mSub_eq 56 rfl (mSub_eq 76 rfl mSub_nil))))))))))))) hi317 (mSub_any 0 rfl (mSub_any 1 rfl (mSub_any 2 rfl (mSub_any 17 rfl (mSub_any 21 rfl (mSub_any 22 rfl (mSub_eq 23 rfl (mSub_any 26 rfl (mSub_any 72 rfl (mSub_any 73 rfl (mSub_any 74 rfl (mSub_any 80 rfl (mSub_any 81 rfl (mSub_any 82 rfl (mSub_any 83 rfl mSub_nil)))))))))))))))) hi328 (mSub_any 21 rfl (mSub_any 22 rfl (mSub_any 24 rfl (mSub_any 27 rfl (mSub_any 28 rfl (mSub_any 29 rfl (mSub_any 30 rfl (mSub_any 31 rfl (mSub_any 32 rfl (mSub_any 33 rfl (mSub_any 34 rfl (mSub_any 35 rfl (mSub_any 37 rfl (mSub_any 38 rfl (mSub_any 41 rfl (mSub_any 42 rfl (mSub_any 43 rfl (mSub_any 44 rfl (mSub_any 45 rfl (mSub_any 70 rfl (mSub_any 70 rfl (mSub_any 71 rfl (mSub_any 71 rfl (mSub_any 73 rfl (mSub_any 74 rfl (mSub_any 75 rfl (mSub_any 78 rfl (mSub_any 79 rfl (mSub_any 85 rfl (mSub_any 86 rfl (mSub_any 86 rfl (mSub_any 87 rfl (mSub_any 87 rfl mSub_nil)))))))))))))))))))))))))))))))))) hi408 (mSub_any 21 rfl (mSub_any 22 rfl (mSub_any 24 rfl (mSub_any 27 rfl (mSub_any 36 rfl (mSub_any 39 rfl (mSub_any 40 rfl (mSub_any 41 rfl (mSub_any 73 rfl (mSub_any 74 rfl (mSub_any 75 rfl mSub_nil)))))))))))) hi410 (mSub_any 33 rfl (mSub_any 34 rfl (mSub_eq 84 rfl (mSub_any 86 rfl (mSub_any 87 rfl mSub_nil)))))) hI415) xa (cL.mono L415 (by omega)) hzl hcs hJ415 (rg_w rv309 rfl) (rg_w rv425 rfl) hW (lv_sub hl [1, 2, 3, 4, 5, 0] rfl) rfl
                            · skip
                              replace hW := wfP_i (wfP_r hW) (i_lt (rg_nle c187_423) (rg_i kc_0) rfl)
                              have ic187_423 := Int32.lt_iff_toInt_lt.mp (rg_nle c187_423)
                              have q426 : rg (1) (60) a178_7_413 := (rg_lt (rg_nle c187_423) kc_0 ra178_7_413).2
                              have uq426 : (1 : Int) ≤ a178_7_413.toInt ∧ a178_7_413.toInt ≤ 60 := q426
                              refine lv_aload_n hx hb dX11_arrive_190 rfl (lv_at hl 0 rfl) ?_
                              have al427 : Z.al 9 0 := hz.2 9 0 (show 0 < 1 from (by omega))
                              refine c_getr (a := Z.ad 9 0) x L415 11 i0 5 al416 rfl rfl (wk_in kf_X11_12) dX11_arrive_191 ?_
                              refine lv_aload_n hx hb dX11_arrive_194 rfl (lv_at hl 0 rfl) ?_
                              have al428 : Z.al 34 0 := hz.2 34 0 (show 0 < 1 from (by omega))
                              refine c_getr (a := Z.ad 34 0) x L415 11 i0 6 al416 rfl rfl (wk_in kf_X11_16) dX11_arrive_195 ?_
                              refine lv_iload hx hb dX11_arrive_198 (lv_at hl 6 rfl) ?_
                              refine lv_iload_n hx hb dX11_arrive_200 rfl (lv_at hl 1 rfl) ?_
                              refine lv_iconst (v := 2) hx hb dX11_arrive_201 (by decide) ?_
                              refine lv_irem hx hb dX11_arrive_202 (by decide) ?_
                              refine lv_topi (fun v429 ev429 => ?_)
                              have rv429 : rg (0) (1) v429 := (rg_rem ev429 rp1 kc_2 rfl).1
                              replace hW := (wfP_i (wfP_i (wfP_i (wfP_a hW v429) ev429) rv429) ((rg_rem ev429 rp1 kc_2 rfl).2))
                              have tv429 := (rg_rem ev429 rp1 kc_2 rfl).2
                              have y430 : (2 : Int32).toInt = 2 := by decide
                              have uv429 : (0 : Int) ≤ v429.toInt ∧ v429.toInt ≤ 1 := rv429
                              refine lv_iconst (v := 1) hx hb dX11_arrive_203 (by decide) ?_
                              refine lv_icmp_ne (tgt := 211) hx hb dX11_arrive_204 (by decide) (fun c204_431 => ?_) (fun c204_431 => ?_)
                              · skip
                                replace hW := wfP_i (wfP_l hW) (i_ne c204_431 rfl (rg_i kc_1))
                                have ic204_431 : v429.toInt ≠ (1 : Int32).toInt := fun z => c204_431 (Int32.toInt_inj.mp z)
                                have y432 : (1 : Int32).toInt = 1 := by decide
                                have q433 : rg (0) (0) v429 := rg_neH c204_431 rv429 kc_1
                                have uq433 : (0 : Int) ≤ v429.toInt ∧ v429.toInt ≤ 0 := q433
                                refine lv_iconst (v := 0) hx hb dX11_arrive_211 (by decide) ?_
                                refine c_ci (As := [.ref (Z.ad 34 0), .int a178_7_413, .int (0 : Int32)]) (rest := []) x hml L415 9 0 al427 rfl (d_ksread l (X + (10 * a37_5_292.toInt + 2 + a178_8_414.toInt)) g415 0 0 a178_7_413 (0 : Int32) ⟨by omega, by omega⟩ al427 al428 (rg_w q426 rfl) (rg_w kc_0 rfl) hW) (wk_V kd_X9_read kl_X11_163 ki_X9_read ks_X9_X9_read kn_X9) rfl ⟨rfl, rfl⟩ hd_ksread ⟨Nat.le_of_ble_eq_true rfl, Nat.le_of_ble_eq_true rfl⟩ rfl hl.1 rfl (lv_room (Nat.le_of_ble_eq_true rfl)) dX11_arrive_212 (fun v435 g434 H434 k434 hp434 L434 => ?_) hcs
                                obtain ⟨hW, hi434, hp434⟩ := hp434
                                replace hW := wfP_i hW ⟨hi434, hp434⟩
                                have rv435 : rg (0) (1) v435 := hp434.2.1
                                have uv435 : (0 : Int) ≤ v435.toInt ∧ v435.toInt ≤ 1 := rv435
                                have hw436 := hp434.2.2
                                refine lv_if_eq (tgt := 230) hx hb dX11_arrive_215 (by decide) (fun c215_437 => ?_) (fun c215_437 => ?_)
                                · skip
                                  replace hW := wfP_i (wfP_l hW) (i_eq c215_437 rfl (rg_i kc_0))
                                  have ic215_437 := congrArg Int32.toInt c215_437
                                  have y438 : (0 : Int32).toInt = 0 := by decide
                                  have q439 : rg (0) (0) v435 := (rg_eq c215_437 rv435 kc_0).1
                                  have uq439 : (0 : Int) ≤ v435.toInt ∧ v435.toInt ≤ 0 := q439
                                  refine lv_aload_n hx hb dX11_arrive_230 rfl (lv_at hl 3 rfl) ?_
                                  have al440 : Z.al 5 (Z.n + sx289) := hz.2 5 (Z.n + sx289) (show (Z.n + sx289) < 2 * Z.n from (by omega))
                                  refine c_getr (a := Z.ad 5 (Z.n + sx289)) x L434 10 sx289 1 al418 rfl rfl (wk_in kf_X11_85) dX11_arrive_231 ?_
                                  refine lv_aload_n hx hb dX11_arrive_234 rfl (lv_at hl 0 rfl) ?_
                                  refine c_getr (a := Z.ad 34 0) x L434 11 i0 6 al416 rfl rfl (wk_in kf_X11_16) dX11_arrive_235 ?_
                                  refine c_ci (As := [.ref (Z.ad 34 0)]) (rest := []) x hml L434 5 (Z.n + sx289) al440 rfl (d_ktakeNext l (X + (10 * a37_5_292.toInt + 2 + a178_8_414.toInt)) g434 (Z.n + sx289) 0 ⟨by omega, by omega⟩ (show (Z.n + sx289) < 2 * Z.n from (by omega)) al428 hW) (wk_V kd_X5_takeNext kl_X11_159 ki_X5_takeNext ks_X5_X5_takeNext kn_X5) rfl ⟨rfl, rfl⟩ hd_ktakeNext ⟨Nat.le_of_ble_eq_true rfl, Nat.le_of_ble_eq_true rfl⟩ rfl hl.1 rfl (lv_room (Nat.le_of_ble_eq_true rfl)) dX11_arrive_238 (fun v442 g441 H441 k441 hp441 L441 => ?_) hcs
                                  obtain ⟨hW, hi441, hp441⟩ := hp441
                                  replace hW := wfP_i hW ⟨hi441, hp441⟩
                                  have rv442 : rg (0) (60) v442 := hp441.2.1
                                  have uv442 : (0 : Int) ≤ v442.toInt ∧ v442.toInt ≤ 60 := rv442
                                  have L443 := cL.mono L441 (show _ ≤ (X + ((10 * a37_5_292.toInt + 2 + a178_8_414.toInt) + 1)) by omega)
                                  refine lv_istore (lv' := [(7, .int v442), (0, .ref (Z.ad 11 i0)), (1, .int p1), (2, .ref (Z.ad 3 q2)), (3, .ref (Z.ad 10 sx289)), (4, .int v309), (5, .int a37_5_292), (8, .int a178_8_414)]) hx hb dX11_arrive_241 hl (by decide) rfl (fun ls hl => ?_)
                                  obtain ⟨v444, ev444, fv444⟩ := inc_ex a178_8_414 (1) (1 : Int32) (by decide)
                                  have rv444 : rg (1) (8) v444 := (rg_add ev444 q422 kc_1 rfl).1
                                  have tv444 := (rg_add ev444 q422 kc_1 rfl).2
                                  have yv444 : (1 : Int32).toInt = 1 := by decide
                                  replace hW := (wfP_i (wfP_i (wfP_i (wfP_a hW v444) ev444) rv444) (w_iadd tv444 rfl (rg_i kc_1)))
                                  refine lv_iinc (v := v444) (lv' := [(8, .int v444), (7, .int v442), (0, .ref (Z.ad 11 i0)), (1, .int p1), (2, .ref (Z.ad 3 q2)), (3, .ref (Z.ad 10 sx289)), (4, .int v309), (5, .int a37_5_292)]) hx hb dX11_arrive_243 hl (k := 7) rfl fv444 (by decide) rfl (fun ls hl => ?_)
                                  refine lv_goto (tgt := 178) hx hb dX11_arrive_246 (by decide) ?_
                                  exact ih415 _ (ms_up tv444 kc_1 q422 rfl rfl) v442 v444 Z g441 _ _ ls _ _ (mFr.tr (mFr.tr hF415 hp434.1 rfl) hp441.1 rfl) (mFi.sub (mFi.sub hI415 hi434 (mSub_eq 57 rfl (mSub_eq 58 rfl (mSub_eq 59 rfl (mSub_eq 60 rfl (mSub_eq 61 rfl (mSub_eq 62 rfl (mSub_eq 63 rfl (mSub_eq 64 rfl (mSub_eq 65 rfl mSub_nil)))))))))) hi441 (mSub_any 33 rfl (mSub_any 34 rfl (mSub_eq 84 rfl (mSub_any 86 rfl (mSub_any 87 rfl mSub_nil)))))) xa (cL.mono L443 (by omega)) hzl hcs (cJ_fr (cJ_fr hJ415 hp434.1 rfl) hp441.1 rfl) (rg_w rv442 rfl) (rg_w rv444 rfl) hW (lv_sub hl [2, 3, 4, 5, 6, 7, 1, 0] rfl) rfl
                                · skip
                                  replace hW := wfP_i (wfP_r hW) (i_ne c215_437 rfl (rg_i kc_0))
                                  have ic215_437 : v435.toInt ≠ (0 : Int32).toInt := fun z => c215_437 (Int32.toInt_inj.mp z)
                                  have y445 : (0 : Int32).toInt = 0 := by decide
                                  have q446 : rg (1) (1) v435 := rg_neL c215_437 rv435 kc_0
                                  have uq446 : (1 : Int) ≤ v435.toInt ∧ v435.toInt ≤ 1 := q446
                                  refine lv_aload_n hx hb dX11_arrive_218 rfl (lv_at hl 3 rfl) ?_
                                  refine lv_aload_n hx hb dX11_arrive_219 rfl (lv_at hl 0 rfl) ?_
                                  refine c_getr (a := Z.ad 9 0) x L434 11 i0 5 al416 rfl rfl (wk_in kf_X11_12) dX11_arrive_220 ?_
                                  refine lv_aload_n hx hb dX11_arrive_223 rfl (lv_at hl 0 rfl) ?_
                                  refine c_geti x L434 11 i0 10 362 al416 rfl rfl (wk_in kf_X11_82) dX11_arrive_224 (fun v447 ev447 wv447 => ?_)
                                  have rv447 : rg (-2147483648) (2147483647) v447 := rg_any v447
                                  replace hW := (wfP_i (wfP_i (wfP_a hW v447) ev447) rv447)
                                  have uv447 : (-2147483648 : Int) ≤ v447.toInt ∧ v447.toInt ≤ 2147483647 := rv447
                                  have sv447 : v447.toInt = (g 362 i0).toInt := congrArg Int32.toInt (ev447.trans (congrFun ((show mFr [0, 1, 2, 32, 33, 34, 35, 36, 37, 38, 39, 40, 41, 42, 43, 44, 45, 46, 47, 48, 49, 67, 108, 109, 111, 135, 136, 164, 165, 166, 167, 168, 169, 170, 171, 172, 173, 174, 175, 176, 177, 178, 179, 180, 197, 198, 225, 226, 227, 228, 229, 230, 231, 232, 233, 234, 235, 288, 289, 290, 291, 292, 293, 294, 295, 296, 323, 384, 385, 386, 421, 422, 512, 544, 576, 768, 800, 832, 864, 928, 960, 992, 1024, 1056, 1088, 1248, 1280, 1344, 1536, 1728, 1729] g g434 from (mFr.tr (mFr.tr (mFr.tr (mFr.tr (mFr.tr (mFr.tr (mFr.tr (mFr.tr mFr.rf hF293 rfl) hp307.1 rfl) hp317.1 rfl) hp328.1 rfl) hp408.1 rfl) hp410.1 rfl) hF415 rfl) hp434.1 rfl)).at 362 rfl) _))
                                  obtain ⟨n448_0, n448_1, ho448, hW⟩ := wfP_e2 hW
                                  have hz0448 := hzl.2.2.2.1
                                  have hz1448 := hzl.2.2.2.2
                                  refine k_callv xa L434 (k_runU (x := ⟨"CellSwitch$Side", "came", "(LCellSwitch$Signal;I)V"⟩) (As := [.ref (Z.ad 9 0), .int v447]) (rest := []) ⟨hx, hb, hml, x.2.2.2.2.1, x.2.2.1⟩ (d_kcame_10 l (X + (10 * a37_5_292.toInt + 2 + a178_8_414.toInt)) g434 sx289 0 v447 _ n448_0 n448_1 ⟨by omega, by omega⟩ (cJ_fr hJ415 hp434.1 rfl) (by omega) (show sx289 < Z.n from (by omega)) al427 (hw436 (by omega)) hW) (va_cwU 2 x.2.2.1 (wk_U (owner := "CellSwitch$Side") kd_X8_came kl_X11_167 km_CellSwitchSide_CellSwitchSide_came ks_X10_CellSwitchSide_X8_came ki_X8_came kn_X8) rfl rfl rfl rfl (by decide +kernel) ⟨Nat.le_of_ble_eq_true rfl, Nat.le_of_ble_eq_true rfl⟩) ⟨cPreA.blind, c_recv x L434 al418 rfl, fun U hU hW => k_pre xa L434 U hU hW⟩ rfl rfl hl.1 rfl (lv_room (Nat.le_of_ble_eq_true rfl)) dX11_arrive_227 ⟨show c415 + 4 ≤ a by omega, show l415 + (36 + n448_0 + n448_1) ≤ b by omega⟩) (fun  Z g448 H448 k448 kc448 kn448 hk448 hn448 hp448 hz448 xa L448 => ?_)
                                  obtain ⟨hW, hi448, hp448⟩ := hp448
                                  replace hW := wfP_i (wfP_a (wfP_i hW ⟨hi448, hp448⟩) Z) rfl
                                  have hww448 := hp448.2.2.1
                                  have ea448_0 := hz448.2.2.1 11 i0 al416 (by omega)
                                  have ea448_1 := hz448.2.2.1 3 q2 al417 (by omega)
                                  have ea448_2 := hz448.2.2.1 10 sx289 al418 (by omega)
                                  rw [← ea448_0] at hl
                                  rw [← ea448_1] at hl
                                  rw [← ea448_2] at hl
                                  have al448_0 := hz448.2.1 11 i0 al416
                                  have al448_1 := hz448.2.1 3 q2 al417
                                  have al448_2 := hz448.2.1 10 sx289 al418
                                  have hZn448 := hz448.1
                                  have x := xa.1
                                  have hz := x.2.2.2.2.2.2.2.1
                                  have hzn := hz.1
                                  have hzl := cZl.tr hzl hz448
                                  have hcs : c415 + kc448 ≤ a ∧ l415 + kn448 ≤ b := by omega
                                  refine lv_aload_n hx hb dX11_arrive_230 rfl (lv_at hl 3 rfl) ?_
                                  have al449 : Z.al 5 (Z.n + sx289) := hz.2 5 (Z.n + sx289) (show (Z.n + sx289) < 2 * Z.n from (by omega))
                                  refine c_getr (a := Z.ad 5 (Z.n + sx289)) x L448 10 sx289 1 al448_2 rfl rfl (wk_in kf_X11_85) dX11_arrive_231 ?_
                                  refine lv_aload_n hx hb dX11_arrive_234 rfl (lv_at hl 0 rfl) ?_
                                  have al450 : Z.al 34 0 := hz.2 34 0 (show 0 < 1 from (by omega))
                                  refine c_getr (a := Z.ad 34 0) x L448 11 i0 6 al448_0 rfl rfl (wk_in kf_X11_16) dX11_arrive_235 ?_
                                  refine c_ci (As := [.ref (Z.ad 34 0)]) (rest := []) x hml L448 5 (Z.n + sx289) al449 rfl (d_ktakeNext l (X + (10 * a37_5_292.toInt + 2 + a178_8_414.toInt)) g448 (Z.n + sx289) 0 ⟨by omega, by omega⟩ (show (Z.n + sx289) < 2 * Z.n from (by omega)) al450 hW) (wk_V kd_X5_takeNext kl_X11_159 ki_X5_takeNext ks_X5_X5_takeNext kn_X5) rfl ⟨rfl, rfl⟩ hd_ktakeNext ⟨Nat.le_of_ble_eq_true rfl, Nat.le_of_ble_eq_true rfl⟩ rfl hl.1 rfl (lv_room (Nat.le_of_ble_eq_true rfl)) dX11_arrive_238 (fun v452 g451 H451 k451 hp451 L451 => ?_) hcs
                                  obtain ⟨hW, hi451, hp451⟩ := hp451
                                  replace hW := wfP_i hW ⟨hi451, hp451⟩
                                  have rv452 : rg (0) (60) v452 := hp451.2.1
                                  have uv452 : (0 : Int) ≤ v452.toInt ∧ v452.toInt ≤ 60 := rv452
                                  have L453 := cL.mono L451 (show _ ≤ (X + ((10 * a37_5_292.toInt + 2 + a178_8_414.toInt) + 1)) by omega)
                                  refine lv_istore (lv' := [(7, .int v452), (0, .ref (Z.ad 11 i0)), (1, .int p1), (2, .ref (Z.ad 3 q2)), (3, .ref (Z.ad 10 sx289)), (4, .int v309), (5, .int a37_5_292), (8, .int a178_8_414)]) hx hb dX11_arrive_241 hl (by decide) rfl (fun ls hl => ?_)
                                  obtain ⟨v454, ev454, fv454⟩ := inc_ex a178_8_414 (1) (1 : Int32) (by decide)
                                  have rv454 : rg (1) (8) v454 := (rg_add ev454 q422 kc_1 rfl).1
                                  have tv454 := (rg_add ev454 q422 kc_1 rfl).2
                                  have yv454 : (1 : Int32).toInt = 1 := by decide
                                  replace hW := (wfP_i (wfP_i (wfP_i (wfP_a hW v454) ev454) rv454) (w_iadd tv454 rfl (rg_i kc_1)))
                                  refine lv_iinc (v := v454) (lv' := [(8, .int v454), (7, .int v452), (0, .ref (Z.ad 11 i0)), (1, .int p1), (2, .ref (Z.ad 3 q2)), (3, .ref (Z.ad 10 sx289)), (4, .int v309), (5, .int a37_5_292)]) hx hb dX11_arrive_243 hl (k := 7) rfl fv454 (by decide) rfl (fun ls hl => ?_)
                                  refine lv_goto (tgt := 178) hx hb dX11_arrive_246 (by decide) ?_
                                  exact ih415 _ (ms_up tv454 kc_1 q422 rfl rfl) v452 v454 Z g451 _ _ ls _ _ (mFr.tr (mFr.tr (mFr.tr hF415 hp434.1 rfl) hp448.1 rfl) hp451.1 rfl) (mFi.sub (mFi.sub (mFi.sub hI415 hi434 (mSub_eq 57 rfl (mSub_eq 58 rfl (mSub_eq 59 rfl (mSub_eq 60 rfl (mSub_eq 61 rfl (mSub_eq 62 rfl (mSub_eq 63 rfl (mSub_eq 64 rfl (mSub_eq 65 rfl mSub_nil)))))))))) hi448 (mSub_any 3 rfl (mSub_any 4 rfl (mSub_any 5 rfl (mSub_any 6 rfl (mSub_any 7 rfl (mSub_any 8 rfl (mSub_any 9 rfl (mSub_any 10 rfl (mSub_any 11 rfl (mSub_any 12 rfl (mSub_any 13 rfl (mSub_any 14 rfl (mSub_any 15 rfl (mSub_any 16 rfl (mSub_any 17 rfl (mSub_any 18 rfl (mSub_any 19 rfl (mSub_any 20 rfl (mSub_any 45 rfl (mSub_any 66 rfl (mSub_any 67 rfl (mSub_any 68 rfl (mSub_any 69 rfl (mSub_any 77 rfl (mSub_any 78 rfl (mSub_any 89 rfl (mSub_any 90 rfl mSub_nil)))))))))))))))))))))))))))) hi451 (mSub_any 33 rfl (mSub_any 34 rfl (mSub_eq 84 rfl (mSub_any 86 rfl (mSub_any 87 rfl mSub_nil)))))) xa (cL.mono L453 (by omega)) hzl hcs (cJ_fr hp448.2.1 hp451.1 rfl) (rg_w rv452 rfl) (rg_w rv454 rfl) hW (lv_sub hl [2, 3, 4, 5, 6, 7, 1, 0] rfl) rfl
                              · skip
                                replace hW := wfP_i (wfP_r hW) (i_eq c204_431 rfl (rg_i kc_1))
                                have ic204_431 := congrArg Int32.toInt c204_431
                                have y455 : (1 : Int32).toInt = 1 := by decide
                                have q456 : rg (1) (1) v429 := (rg_eq c204_431 rv429 kc_1).1
                                have uq456 : (1 : Int) ≤ v429.toInt ∧ v429.toInt ≤ 1 := q456
                                refine lv_iconst (v := 1) hx hb dX11_arrive_207 (by decide) ?_
                                refine lv_goto (tgt := 212) hx hb dX11_arrive_208 (by decide) ?_
                                refine c_ci (As := [.ref (Z.ad 34 0), .int a178_7_413, .int (1 : Int32)]) (rest := []) x hml L415 9 0 al427 rfl (d_ksread l (X + (10 * a37_5_292.toInt + 2 + a178_8_414.toInt)) g415 0 0 a178_7_413 (1 : Int32) ⟨by omega, by omega⟩ al427 al428 (rg_w q426 rfl) (rg_w kc_1 rfl) hW) (wk_V kd_X9_read kl_X11_163 ki_X9_read ks_X9_X9_read kn_X9) rfl ⟨rfl, rfl⟩ hd_ksread ⟨Nat.le_of_ble_eq_true rfl, Nat.le_of_ble_eq_true rfl⟩ rfl hl.1 rfl (lv_room (Nat.le_of_ble_eq_true rfl)) dX11_arrive_212 (fun v458 g457 H457 k457 hp457 L457 => ?_) hcs
                                obtain ⟨hW, hi457, hp457⟩ := hp457
                                replace hW := wfP_i hW ⟨hi457, hp457⟩
                                have rv458 : rg (0) (1) v458 := hp457.2.1
                                have uv458 : (0 : Int) ≤ v458.toInt ∧ v458.toInt ≤ 1 := rv458
                                have hw459 := hp457.2.2
                                refine lv_if_eq (tgt := 230) hx hb dX11_arrive_215 (by decide) (fun c215_460 => ?_) (fun c215_460 => ?_)
                                · skip
                                  replace hW := wfP_i (wfP_l hW) (i_eq c215_460 rfl (rg_i kc_0))
                                  have ic215_460 := congrArg Int32.toInt c215_460
                                  have y461 : (0 : Int32).toInt = 0 := by decide
                                  have q462 : rg (0) (0) v458 := (rg_eq c215_460 rv458 kc_0).1
                                  have uq462 : (0 : Int) ≤ v458.toInt ∧ v458.toInt ≤ 0 := q462
                                  refine lv_aload_n hx hb dX11_arrive_230 rfl (lv_at hl 3 rfl) ?_
                                  have al463 : Z.al 5 (Z.n + sx289) := hz.2 5 (Z.n + sx289) (show (Z.n + sx289) < 2 * Z.n from (by omega))
                                  refine c_getr (a := Z.ad 5 (Z.n + sx289)) x L457 10 sx289 1 al418 rfl rfl (wk_in kf_X11_85) dX11_arrive_231 ?_
                                  refine lv_aload_n hx hb dX11_arrive_234 rfl (lv_at hl 0 rfl) ?_
                                  refine c_getr (a := Z.ad 34 0) x L457 11 i0 6 al416 rfl rfl (wk_in kf_X11_16) dX11_arrive_235 ?_
                                  refine c_ci (As := [.ref (Z.ad 34 0)]) (rest := []) x hml L457 5 (Z.n + sx289) al463 rfl (d_ktakeNext l (X + (10 * a37_5_292.toInt + 2 + a178_8_414.toInt)) g457 (Z.n + sx289) 0 ⟨by omega, by omega⟩ (show (Z.n + sx289) < 2 * Z.n from (by omega)) al428 hW) (wk_V kd_X5_takeNext kl_X11_159 ki_X5_takeNext ks_X5_X5_takeNext kn_X5) rfl ⟨rfl, rfl⟩ hd_ktakeNext ⟨Nat.le_of_ble_eq_true rfl, Nat.le_of_ble_eq_true rfl⟩ rfl hl.1 rfl (lv_room (Nat.le_of_ble_eq_true rfl)) dX11_arrive_238 (fun v465 g464 H464 k464 hp464 L464 => ?_) hcs
                                  obtain ⟨hW, hi464, hp464⟩ := hp464
                                  replace hW := wfP_i hW ⟨hi464, hp464⟩
                                  have rv465 : rg (0) (60) v465 := hp464.2.1
                                  have uv465 : (0 : Int) ≤ v465.toInt ∧ v465.toInt ≤ 60 := rv465
                                  have L466 := cL.mono L464 (show _ ≤ (X + ((10 * a37_5_292.toInt + 2 + a178_8_414.toInt) + 1)) by omega)
                                  refine lv_istore (lv' := [(7, .int v465), (0, .ref (Z.ad 11 i0)), (1, .int p1), (2, .ref (Z.ad 3 q2)), (3, .ref (Z.ad 10 sx289)), (4, .int v309), (5, .int a37_5_292), (8, .int a178_8_414)]) hx hb dX11_arrive_241 hl (by decide) rfl (fun ls hl => ?_)
                                  obtain ⟨v467, ev467, fv467⟩ := inc_ex a178_8_414 (1) (1 : Int32) (by decide)
                                  have rv467 : rg (1) (8) v467 := (rg_add ev467 q422 kc_1 rfl).1
                                  have tv467 := (rg_add ev467 q422 kc_1 rfl).2
                                  have yv467 : (1 : Int32).toInt = 1 := by decide
                                  replace hW := (wfP_i (wfP_i (wfP_i (wfP_a hW v467) ev467) rv467) (w_iadd tv467 rfl (rg_i kc_1)))
                                  refine lv_iinc (v := v467) (lv' := [(8, .int v467), (7, .int v465), (0, .ref (Z.ad 11 i0)), (1, .int p1), (2, .ref (Z.ad 3 q2)), (3, .ref (Z.ad 10 sx289)), (4, .int v309), (5, .int a37_5_292)]) hx hb dX11_arrive_243 hl (k := 7) rfl fv467 (by decide) rfl (fun ls hl => ?_)
                                  refine lv_goto (tgt := 178) hx hb dX11_arrive_246 (by decide) ?_
                                  exact ih415 _ (ms_up tv467 kc_1 q422 rfl rfl) v465 v467 Z g464 _ _ ls _ _ (mFr.tr (mFr.tr hF415 hp457.1 rfl) hp464.1 rfl) (mFi.sub (mFi.sub hI415 hi457 (mSub_eq 57 rfl (mSub_eq 58 rfl (mSub_eq 59 rfl (mSub_eq 60 rfl (mSub_eq 61 rfl (mSub_eq 62 rfl (mSub_eq 63 rfl (mSub_eq 64 rfl (mSub_eq 65 rfl mSub_nil)))))))))) hi464 (mSub_any 33 rfl (mSub_any 34 rfl (mSub_eq 84 rfl (mSub_any 86 rfl (mSub_any 87 rfl mSub_nil)))))) xa (cL.mono L466 (by omega)) hzl hcs (cJ_fr (cJ_fr hJ415 hp457.1 rfl) hp464.1 rfl) (rg_w rv465 rfl) (rg_w rv467 rfl) hW (lv_sub hl [2, 3, 4, 5, 6, 7, 1, 0] rfl) rfl
                                · skip
                                  replace hW := wfP_i (wfP_r hW) (i_ne c215_460 rfl (rg_i kc_0))
                                  have ic215_460 : v458.toInt ≠ (0 : Int32).toInt := fun z => c215_460 (Int32.toInt_inj.mp z)
                                  have y468 : (0 : Int32).toInt = 0 := by decide
                                  have q469 : rg (1) (1) v458 := rg_neL c215_460 rv458 kc_0
                                  have uq469 : (1 : Int) ≤ v458.toInt ∧ v458.toInt ≤ 1 := q469
                                  refine lv_aload_n hx hb dX11_arrive_218 rfl (lv_at hl 3 rfl) ?_
                                  refine lv_aload_n hx hb dX11_arrive_219 rfl (lv_at hl 0 rfl) ?_
                                  refine c_getr (a := Z.ad 9 0) x L457 11 i0 5 al416 rfl rfl (wk_in kf_X11_12) dX11_arrive_220 ?_
                                  refine lv_aload_n hx hb dX11_arrive_223 rfl (lv_at hl 0 rfl) ?_
                                  refine c_geti x L457 11 i0 10 362 al416 rfl rfl (wk_in kf_X11_82) dX11_arrive_224 (fun v470 ev470 wv470 => ?_)
                                  have rv470 : rg (-2147483648) (2147483647) v470 := rg_any v470
                                  replace hW := (wfP_i (wfP_i (wfP_a hW v470) ev470) rv470)
                                  have uv470 : (-2147483648 : Int) ≤ v470.toInt ∧ v470.toInt ≤ 2147483647 := rv470
                                  have sv470 : v470.toInt = (g 362 i0).toInt := congrArg Int32.toInt (ev470.trans (congrFun ((show mFr [0, 1, 2, 32, 33, 34, 35, 36, 37, 38, 39, 40, 41, 42, 43, 44, 45, 46, 47, 48, 49, 67, 108, 109, 111, 135, 136, 164, 165, 166, 167, 168, 169, 170, 171, 172, 173, 174, 175, 176, 177, 178, 179, 180, 197, 198, 225, 226, 227, 228, 229, 230, 231, 232, 233, 234, 235, 288, 289, 290, 291, 292, 293, 294, 295, 296, 323, 384, 385, 386, 421, 422, 512, 544, 576, 768, 800, 832, 864, 928, 960, 992, 1024, 1056, 1088, 1248, 1280, 1344, 1536, 1728, 1729] g g457 from (mFr.tr (mFr.tr (mFr.tr (mFr.tr (mFr.tr (mFr.tr (mFr.tr (mFr.tr mFr.rf hF293 rfl) hp307.1 rfl) hp317.1 rfl) hp328.1 rfl) hp408.1 rfl) hp410.1 rfl) hF415 rfl) hp457.1 rfl)).at 362 rfl) _))
                                  obtain ⟨n471_0, n471_1, ho471, hW⟩ := wfP_e2 hW
                                  have hz0471 := hzl.2.2.2.1
                                  have hz1471 := hzl.2.2.2.2
                                  refine k_callv xa L457 (k_runU (x := ⟨"CellSwitch$Side", "came", "(LCellSwitch$Signal;I)V"⟩) (As := [.ref (Z.ad 9 0), .int v470]) (rest := []) ⟨hx, hb, hml, x.2.2.2.2.1, x.2.2.1⟩ (d_kcame_10 l (X + (10 * a37_5_292.toInt + 2 + a178_8_414.toInt)) g457 sx289 0 v470 _ n471_0 n471_1 ⟨by omega, by omega⟩ (cJ_fr hJ415 hp457.1 rfl) (by omega) (show sx289 < Z.n from (by omega)) al427 (hw459 (by omega)) hW) (va_cwU 2 x.2.2.1 (wk_U (owner := "CellSwitch$Side") kd_X8_came kl_X11_167 km_CellSwitchSide_CellSwitchSide_came ks_X10_CellSwitchSide_X8_came ki_X8_came kn_X8) rfl rfl rfl rfl (by decide +kernel) ⟨Nat.le_of_ble_eq_true rfl, Nat.le_of_ble_eq_true rfl⟩) ⟨cPreA.blind, c_recv x L457 al418 rfl, fun U hU hW => k_pre xa L457 U hU hW⟩ rfl rfl hl.1 rfl (lv_room (Nat.le_of_ble_eq_true rfl)) dX11_arrive_227 ⟨show c415 + 4 ≤ a by omega, show l415 + (36 + n471_0 + n471_1) ≤ b by omega⟩) (fun  Z g471 H471 k471 kc471 kn471 hk471 hn471 hp471 hz471 xa L471 => ?_)
                                  obtain ⟨hW, hi471, hp471⟩ := hp471
                                  replace hW := wfP_i (wfP_a (wfP_i hW ⟨hi471, hp471⟩) Z) rfl
                                  have hww471 := hp471.2.2.1
                                  have ea471_0 := hz471.2.2.1 11 i0 al416 (by omega)
                                  have ea471_1 := hz471.2.2.1 3 q2 al417 (by omega)
                                  have ea471_2 := hz471.2.2.1 10 sx289 al418 (by omega)
                                  rw [← ea471_0] at hl
                                  rw [← ea471_1] at hl
                                  rw [← ea471_2] at hl
                                  have al471_0 := hz471.2.1 11 i0 al416
                                  have al471_1 := hz471.2.1 3 q2 al417
                                  have al471_2 := hz471.2.1 10 sx289 al418
                                  have hZn471 := hz471.1
                                  have x := xa.1
                                  have hz := x.2.2.2.2.2.2.2.1
                                  have hzn := hz.1
                                  have hzl := cZl.tr hzl hz471
                                  have hcs : c415 + kc471 ≤ a ∧ l415 + kn471 ≤ b := by omega
                                  refine lv_aload_n hx hb dX11_arrive_230 rfl (lv_at hl 3 rfl) ?_
                                  have al472 : Z.al 5 (Z.n + sx289) := hz.2 5 (Z.n + sx289) (show (Z.n + sx289) < 2 * Z.n from (by omega))
                                  refine c_getr (a := Z.ad 5 (Z.n + sx289)) x L471 10 sx289 1 al471_2 rfl rfl (wk_in kf_X11_85) dX11_arrive_231 ?_
                                  refine lv_aload_n hx hb dX11_arrive_234 rfl (lv_at hl 0 rfl) ?_
                                  have al473 : Z.al 34 0 := hz.2 34 0 (show 0 < 1 from (by omega))
                                  refine c_getr (a := Z.ad 34 0) x L471 11 i0 6 al471_0 rfl rfl (wk_in kf_X11_16) dX11_arrive_235 ?_
                                  refine c_ci (As := [.ref (Z.ad 34 0)]) (rest := []) x hml L471 5 (Z.n + sx289) al472 rfl (d_ktakeNext l (X + (10 * a37_5_292.toInt + 2 + a178_8_414.toInt)) g471 (Z.n + sx289) 0 ⟨by omega, by omega⟩ (show (Z.n + sx289) < 2 * Z.n from (by omega)) al473 hW) (wk_V kd_X5_takeNext kl_X11_159 ki_X5_takeNext ks_X5_X5_takeNext kn_X5) rfl ⟨rfl, rfl⟩ hd_ktakeNext ⟨Nat.le_of_ble_eq_true rfl, Nat.le_of_ble_eq_true rfl⟩ rfl hl.1 rfl (lv_room (Nat.le_of_ble_eq_true rfl)) dX11_arrive_238 (fun v475 g474 H474 k474 hp474 L474 => ?_) hcs
                                  obtain ⟨hW, hi474, hp474⟩ := hp474
                                  replace hW := wfP_i hW ⟨hi474, hp474⟩
                                  have rv475 : rg (0) (60) v475 := hp474.2.1
                                  have uv475 : (0 : Int) ≤ v475.toInt ∧ v475.toInt ≤ 60 := rv475
                                  have L476 := cL.mono L474 (show _ ≤ (X + ((10 * a37_5_292.toInt + 2 + a178_8_414.toInt) + 1)) by omega)
                                  refine lv_istore (lv' := [(7, .int v475), (0, .ref (Z.ad 11 i0)), (1, .int p1), (2, .ref (Z.ad 3 q2)), (3, .ref (Z.ad 10 sx289)), (4, .int v309), (5, .int a37_5_292), (8, .int a178_8_414)]) hx hb dX11_arrive_241 hl (by decide) rfl (fun ls hl => ?_)
                                  obtain ⟨v477, ev477, fv477⟩ := inc_ex a178_8_414 (1) (1 : Int32) (by decide)
                                  have rv477 : rg (1) (8) v477 := (rg_add ev477 q422 kc_1 rfl).1
                                  have tv477 := (rg_add ev477 q422 kc_1 rfl).2
                                  have yv477 : (1 : Int32).toInt = 1 := by decide
                                  replace hW := (wfP_i (wfP_i (wfP_i (wfP_a hW v477) ev477) rv477) (w_iadd tv477 rfl (rg_i kc_1)))
                                  refine lv_iinc (v := v477) (lv' := [(8, .int v477), (7, .int v475), (0, .ref (Z.ad 11 i0)), (1, .int p1), (2, .ref (Z.ad 3 q2)), (3, .ref (Z.ad 10 sx289)), (4, .int v309), (5, .int a37_5_292)]) hx hb dX11_arrive_243 hl (k := 7) rfl fv477 (by decide) rfl (fun ls hl => ?_)
                                  refine lv_goto (tgt := 178) hx hb dX11_arrive_246 (by decide) ?_
                                  exact ih415 _ (ms_up tv477 kc_1 q422 rfl rfl) v475 v477 Z g474 _ _ ls _ _ (mFr.tr (mFr.tr (mFr.tr hF415 hp457.1 rfl) hp471.1 rfl) hp474.1 rfl) (mFi.sub (mFi.sub (mFi.sub hI415 hi457 (mSub_eq 57 rfl (mSub_eq 58 rfl (mSub_eq 59 rfl (mSub_eq 60 rfl (mSub_eq 61 rfl (mSub_eq 62 rfl (mSub_eq 63 rfl (mSub_eq 64 rfl (mSub_eq 65 rfl mSub_nil)))))))))) hi471 (mSub_any 3 rfl (mSub_any 4 rfl (mSub_any 5 rfl (mSub_any 6 rfl (mSub_any 7 rfl (mSub_any 8 rfl (mSub_any 9 rfl (mSub_any 10 rfl (mSub_any 11 rfl (mSub_any 12 rfl (mSub_any 13 rfl (mSub_any 14 rfl (mSub_any 15 rfl (mSub_any 16 rfl (mSub_any 17 rfl (mSub_any 18 rfl (mSub_any 19 rfl (mSub_any 20 rfl (mSub_any 45 rfl (mSub_any 66 rfl (mSub_any 67 rfl (mSub_any 68 rfl (mSub_any 69 rfl (mSub_any 77 rfl (mSub_any 78 rfl (mSub_any 89 rfl (mSub_any 90 rfl mSub_nil)))))))))))))))))))))))))))) hi474 (mSub_any 33 rfl (mSub_any 34 rfl (mSub_eq 84 rfl (mSub_any 86 rfl (mSub_any 87 rfl mSub_nil)))))) xa (cL.mono L476 (by omega)) hzl hcs (cJ_fr hp471.2.1 hp474.1 rfl) (rg_w rv475 rfl) (rg_w rv477 rfl) hW (lv_sub hl [2, 3, 4, 5, 6, 7, 1, 0] rfl) rfl
                      have y478 : (0 : Int32).toInt = 0 := by decide
                      exact j178_415 _ v411 (0 : Int32) Z g410 _ _ ls _ _ mFr.rf mFi.rf xa (cL.mono L412 (by omega)) hzl hcs (cJ_fr (cJ_fr (cJ_fr hp317.2.2.1 hp328.1 rfl) hp408.1 rfl) hp410.1 rfl) (rg_w rv411 rfl) (rg_w kc_0 rfl) hW (lv_sub hl [4, 5, 6, 7, 3, 8, 1, 0] rfl) rfl
                  · skip
                    replace hW := wfP_i (wfP_r hW) (i_eq c128_330 rfl (rg_i kc_1))
                    have ic128_330 := congrArg Int32.toInt c128_330
                    have y479 : (1 : Int32).toInt = 1 := by decide
                    have q480 : rg (1) (1) v329 := (rg_eq c128_330 rv329 kc_1).1
                    have uq480 : (1 : Int) ≤ v329.toInt ∧ v329.toInt ≤ 1 := q480
                    refine lv_aload_n hx hb dX11_arrive_131 rfl (lv_at hl 5 rfl) ?_
                    refine lv_aload_n hx hb dX11_arrive_132 rfl (lv_at hl 2 rfl) ?_
                    refine c_geti x L328 11 i0 10 362 al317_0 rfl rfl (wk_in kf_X11_82) dX11_arrive_133 (fun v481 ev481 wv481 => ?_)
                    refine m_top (((mm_fr ev327 hp328.1 rfl)).trans ev481.symm) ?_
                    refine c_cvU (n := 1) (owner := "CellSwitch$Side") (x0 := ⟨"CellSwitch$Side", "allOver", "(I)V"⟩) (As := [.int v327]) (rest := []) x hml L328 10 sx289 al317_2 rfl (d_kallOver_10 l (X + ((10 * a37_5_292.toInt) + 1)) g328 sx289 v327 ⟨by omega, by omega⟩ (cJ_fr hp317.2.2.1 hp328.1 rfl) (show sx289 < Z.n from (by omega)) hW) (wk_U kd_X8_allOver kl_X11_93 km_CellSwitchSide_CellSwitchSide_allOver ks_X10_CellSwitchSide_X8_allOver ki_X8_allOver kn_X8) rfl ⟨rfl, rfl⟩ rfl (by decide +kernel) ⟨Nat.le_of_ble_eq_true rfl, Nat.le_of_ble_eq_true rfl⟩ rfl hl.1 rfl (lv_room (Nat.le_of_ble_eq_true rfl)) dX11_arrive_136 (fun  g482 H482 k482 hp482 L482 => ?_) hcs
                    obtain ⟨hW, hi482, hp482⟩ := hp482
                    replace hW := wfP_i hW ⟨hi482, hp482⟩
                    refine lv_goto (tgt := 162) hx hb dX11_arrive_139 (by decide) ?_
                    refine lv_aload_n hx hb dX11_arrive_162 rfl (lv_at hl 5 rfl) ?_
                    refine c_getr (a := Z.ad 5 (Z.n + sx289)) x L482 10 sx289 1 al317_2 rfl rfl (wk_in kf_X11_85) dX11_arrive_163 ?_
                    refine lv_aload_n hx hb dX11_arrive_166 rfl (lv_at hl 2 rfl) ?_
                    have al483 : Z.al 34 0 := hz.2 34 0 (show 0 < 1 from (by omega))
                    refine c_getr (a := Z.ad 34 0) x L482 11 i0 6 al317_0 rfl rfl (wk_in kf_X11_16) dX11_arrive_167 ?_
                    refine c_ci (As := [.ref (Z.ad 34 0)]) (rest := []) x hml L482 5 (Z.n + sx289) al323 rfl (d_ktakeNext l (X + ((10 * a37_5_292.toInt) + 1)) g482 (Z.n + sx289) 0 ⟨by omega, by omega⟩ (show (Z.n + sx289) < 2 * Z.n from (by omega)) al483 hW) (wk_V kd_X5_takeNext kl_X11_159 ki_X5_takeNext ks_X5_X5_takeNext kn_X5) rfl ⟨rfl, rfl⟩ hd_ktakeNext ⟨Nat.le_of_ble_eq_true rfl, Nat.le_of_ble_eq_true rfl⟩ rfl hl.1 rfl (lv_room (Nat.le_of_ble_eq_true rfl)) dX11_arrive_170 (fun v485 g484 H484 k484 hp484 L484 => ?_) hcs
                    obtain ⟨hW, hi484, hp484⟩ := hp484
                    replace hW := wfP_i hW ⟨hi484, hp484⟩
                    have rv485 : rg (0) (60) v485 := hp484.2.1
                    have uv485 : (0 : Int) ≤ v485.toInt ∧ v485.toInt ≤ 60 := rv485
                    have L486 := cL.mono L484 (show _ ≤ (X + (((10 * a37_5_292.toInt) + 1) + 1)) by omega)
                    refine lv_istore (lv' := [(7, .int v485), (6, .int v329), (4, .int v309), (0, .ref (Z.ad 11 i0)), (1, .int p1), (2, .ref (Z.ad 3 q2)), (3, .ref (Z.ad 10 sx289)), (5, .int a37_5_292)]) hx hb dX11_arrive_173 hl (by decide) rfl (fun ls hl => ?_)
                    refine lv_iconst (v := 0) hx hb dX11_arrive_175 (by decide) ?_
                    refine lv_istore (lv' := [(8, .int (0 : Int32)), (7, .int v485), (6, .int v329), (4, .int v309), (0, .ref (Z.ad 11 i0)), (1, .int p1), (2, .ref (Z.ad 3 q2)), (3, .ref (Z.ad 10 sx289)), (5, .int a37_5_292)]) hx hb dX11_arrive_176 hl (by decide) rfl (fun ls hl => ?_)
                    obtain ⟨P489, hP489, hW⟩ := wfP_ex hW
                    have j178_489 : ∀ (n : Nat) (a178_7_487 a178_8_488 : Int32) (Z : cZ) (g489 : mSt) (H489 : Heap) (k489 : List Loc) (ls : Array Slot) (c489 l489 : Nat), mFr [32, 33, 34, 35, 36, 37, 38, 39, 40, 41, 42, 43, 44, 45, 46, 47, 48, 49, 135, 170, 171, 198, 288, 289, 290, 291, 292, 293, 294, 295, 296, 323, 384, 385, 386, 832, 864, 1088, 1280, 1344, 1536, 1728, 1729] g484 g489 → mFi (im_karrive i0 p1 q2) g484 g489 → cXA p c cX11_arrive s args (wk (Cond.code yX11_arrive cX11_arrive 9 none)) m G Z A RX11 H0 → cL G Z A H0 (X + (10 * a37_5_292.toInt + 2 + a178_8_488.toInt)) g489 H489 k489 → cZl Z0 Z c489 l489 → (c489 ≤ a ∧ l489 ≤ b) → cJ Z g489 → rg (0) (60) a178_7_487 → rg (0) (8) a178_8_488 → wfP (P489 a178_7_487 a178_8_488 Z g489) → lv_has ls 9 [(0, .ref (Z.ad 11 i0)), (1, .int p1), (2, .ref (Z.ad 3 q2)), (3, .ref (Z.ad 10 sx289)), (4, .int v309), (5, .int a37_5_292), (7, .int a178_7_487), (8, .int a178_8_488)] → ((8 : Int) - a178_8_488.toInt).toNat = n → W p l e (rm_karrive a b) s m args below meth c H489 k489 c489 l489 Q (F0 m 178 ls []) := by
                      intro n
                      induction n using Nat.strongRecOn with
                      | _ n ih489 =>
                        intro a178_7_487 a178_8_488 Z g489 H489 k489 ls c489 l489 hF489 hI489 xa L489 hzl hcs hJ489 ra178_7_487 ra178_8_488 hW hl hn489
                        subst hn489
                        have x := xa.1
                        have hz := x.2.2.2.2.2.2.2.1
                        have hzn := hz.1
                        have hZn489 := hzl.1
                        replace hW := wfP_i (wfP_i (wfP_i (wfP_i (wfP_i (wfP_i (wfP_i (wfP_a (wfP_a (wfP_a (wfP_a hP489 a178_7_487) a178_8_488) Z) g489) hF489) hI489) hJ489) hzl.1) ra178_7_487) ra178_8_488) hW
                        have ua178_7_487 : (0 : Int) ≤ a178_7_487.toInt ∧ a178_7_487.toInt ≤ 60 := ra178_7_487
                        have ua178_8_488 : (0 : Int) ≤ a178_8_488.toInt ∧ a178_8_488.toInt ≤ 8 := ra178_8_488
                        have al490 := hzl.2.1 11 i0 hal0
                        have al491 := hzl.2.1 3 q2 hq2
                        have al492 : Z.al 10 sx289 := hz.2 10 sx289 (show sx289 < Z.n from (by omega))
                        refine lv_iload hx hb dX11_arrive_178 (lv_at hl 7 rfl) ?_
                        refine lv_bipush (v := 8) hx hb dX11_arrive_180 (by decide) ?_
                        refine lv_icmp_ge (tgt := 249) hx hb dX11_arrive_182 (by decide) (fun c182_493 => ?_) (fun c182_493 => ?_)
                        · skip
                          replace hW := wfP_i (wfP_l hW) (i_le c182_493 (rg_i kc_8) rfl)
                          have ic182_493 := Int32.le_iff_toInt_le.mp c182_493
                          have q494 : rg (8) (8) a178_8_488 := (rg_le c182_493 kc_8 ra178_8_488).2
                          have uq494 : (8 : Int) ≤ a178_8_488.toInt ∧ a178_8_488.toInt ≤ 8 := q494
                          obtain ⟨v495, ev495, fv495⟩ := inc_ex a37_5_292 (1) (1 : Int32) (by decide)
                          have rv495 : rg (1) (212) v495 := (rg_add ev495 q299 kc_1 rfl).1
                          have tv495 := (rg_add ev495 q299 kc_1 rfl).2
                          have yv495 : (1 : Int32).toInt = 1 := by decide
                          replace hW := (wfP_i (wfP_i (wfP_i (wfP_a hW v495) ev495) rv495) (w_iadd tv495 rfl (rg_i kc_1)))
                          refine lv_iinc (v := v495) (lv' := [(5, .int v495), (0, .ref (Z.ad 11 i0)), (1, .int p1), (2, .ref (Z.ad 3 q2)), (3, .ref (Z.ad 10 sx289)), (4, .int v309), (7, .int a178_7_487), (8, .int a178_8_488)]) hx hb dX11_arrive_249 hl (k := 5) rfl fv495 (by decide) rfl (fun ls hl => ?_)
                          refine lv_goto (tgt := 37) hx hb dX11_arrive_252 (by decide) ?_
                          exact ih293 _ (ms_up tv495 kc_1 q299 rfl rfl) v309 v495 Z g489 _ _ ls _ _ (mFr.tr (mFr.tr (mFr.tr (mFr.tr (mFr.tr (mFr.tr hF293 hp307.1 rfl) hp317.1 rfl) hp328.1 rfl) hp482.1 rfl) hp484.1 rfl) hF489 rfl) (mFi.tr (mFi.sub (mFi.sub (mFi.sub (mFi.sub (mFi.sub hI293 hi307 (mSub_eq 46 rfl (mSub_eq 47 rfl (mSub_eq 48 rfl (mSub_eq 49 rfl (mSub_eq 50 rfl (mSub_eq 51 rfl (mSub_eq 52 rfl (mSub_eq 53 rfl (mSub_eq 54 rfl (mSub_eq 55 rfl (mSub_eq 56 rfl (mSub_eq 76 rfl mSub_nil))))))))))))) hi317 (mSub_any 0 rfl (mSub_any 1 rfl (mSub_any 2 rfl (mSub_any 17 rfl (mSub_any 21 rfl (mSub_any 22 rfl (mSub_eq 23 rfl (mSub_any 26 rfl (mSub_any 72 rfl (mSub_any 73 rfl (mSub_any 74 rfl (mSub_any 80 rfl (mSub_any 81 rfl (mSub_any 82 rfl (mSub_any 83 rfl mSub_nil)))))))))))))))) hi328 (mSub_any 21 rfl (mSub_any 22 rfl (mSub_any 24 rfl (mSub_any 27 rfl (mSub_any 28 rfl (mSub_any 29 rfl (mSub_any 30 rfl (mSub_any 31 rfl (mSub_any 32 rfl (mSub_any 33 rfl (mSub_any 34 rfl (mSub_any 35 rfl (mSub_any 37 rfl (mSub_any 38 rfl (mSub_any 41 rfl (mSub_any 42 rfl (mSub_any 43 rfl (mSub_any 44 rfl (mSub_any 45 rfl (mSub_any 70 rfl (mSub_any 70 rfl (mSub_any 71 rfl (mSub_any 71 rfl (mSub_any 73 rfl (mSub_any 74 rfl (mSub_any 75 rfl (mSub_any 78 rfl (mSub_any 79 rfl (mSub_any 85 rfl (mSub_any 86 rfl (mSub_any 86 rfl (mSub_any 87 rfl (mSub_any 87 rfl mSub_nil)))))))))))))))))))))))))))))))))) hi482 (mSub_any 7 rfl (mSub_any 11 rfl (mSub_any 12 rfl (mSub_any 13 rfl (mSub_any 15 rfl (mSub_any 16 rfl (mSub_any 17 rfl (mSub_any 19 rfl (mSub_any 45 rfl (mSub_any 77 rfl (mSub_any 78 rfl mSub_nil)))))))))))) hi484 (mSub_any 33 rfl (mSub_any 34 rfl (mSub_eq 84 rfl (mSub_any 86 rfl (mSub_any 87 rfl mSub_nil)))))) hI489) xa (cL.mono L489 (by omega)) hzl hcs hJ489 (rg_w rv309 rfl) (rg_w rv495 rfl) hW (lv_sub hl [1, 2, 3, 4, 5, 0] rfl) rfl
                        · skip
                          replace hW := wfP_i (wfP_r hW) (i_lt (rg_nle c182_493) rfl (rg_i kc_8))
                          have ic182_493 := Int32.lt_iff_toInt_lt.mp (rg_nle c182_493)
                          have q496 : rg (0) (7) a178_8_488 := (rg_lt (rg_nle c182_493) ra178_8_488 kc_8).1
                          have uq496 : (0 : Int) ≤ a178_8_488.toInt ∧ a178_8_488.toInt ≤ 7 := q496
                          refine lv_iload hx hb dX11_arrive_185 (lv_at hl 6 rfl) ?_
                          refine lv_if_le (tgt := 249) hx hb dX11_arrive_187 (by decide) (fun c187_497 => ?_) (fun c187_497 => ?_)
                          · skip
                            replace hW := wfP_i (wfP_l hW) (i_le c187_497 rfl (rg_i kc_0))
                            have ic187_497 := Int32.le_iff_toInt_le.mp c187_497
                            have q498 : rg (0) (0) a178_7_487 := (rg_le c187_497 ra178_7_487 kc_0).1
                            have uq498 : (0 : Int) ≤ a178_7_487.toInt ∧ a178_7_487.toInt ≤ 0 := q498
                            obtain ⟨v499, ev499, fv499⟩ := inc_ex a37_5_292 (1) (1 : Int32) (by decide)
                            have rv499 : rg (1) (212) v499 := (rg_add ev499 q299 kc_1 rfl).1
                            have tv499 := (rg_add ev499 q299 kc_1 rfl).2
                            have yv499 : (1 : Int32).toInt = 1 := by decide
                            replace hW := (wfP_i (wfP_i (wfP_i (wfP_a hW v499) ev499) rv499) (w_iadd tv499 rfl (rg_i kc_1)))
                            refine lv_iinc (v := v499) (lv' := [(5, .int v499), (0, .ref (Z.ad 11 i0)), (1, .int p1), (2, .ref (Z.ad 3 q2)), (3, .ref (Z.ad 10 sx289)), (4, .int v309), (7, .int a178_7_487), (8, .int a178_8_488)]) hx hb dX11_arrive_249 hl (k := 5) rfl fv499 (by decide) rfl (fun ls hl => ?_)
                            refine lv_goto (tgt := 37) hx hb dX11_arrive_252 (by decide) ?_
                            exact ih293 _ (ms_up tv499 kc_1 q299 rfl rfl) v309 v499 Z g489 _ _ ls _ _ (mFr.tr (mFr.tr (mFr.tr (mFr.tr (mFr.tr (mFr.tr hF293 hp307.1 rfl) hp317.1 rfl) hp328.1 rfl) hp482.1 rfl) hp484.1 rfl) hF489 rfl) (mFi.tr (mFi.sub (mFi.sub (mFi.sub (mFi.sub (mFi.sub hI293 hi307 (mSub_eq 46 rfl (mSub_eq 47 rfl (mSub_eq 48 rfl (mSub_eq 49 rfl (mSub_eq 50 rfl (mSub_eq 51 rfl (mSub_eq 52 rfl (mSub_eq 53 rfl (mSub_eq 54 rfl (mSub_eq 55 rfl (mSub_eq 56 rfl (mSub_eq 76 rfl mSub_nil))))))))))))) hi317 (mSub_any 0 rfl (mSub_any 1 rfl (mSub_any 2 rfl (mSub_any 17 rfl (mSub_any 21 rfl (mSub_any 22 rfl (mSub_eq 23 rfl (mSub_any 26 rfl (mSub_any 72 rfl (mSub_any 73 rfl (mSub_any 74 rfl (mSub_any 80 rfl (mSub_any 81 rfl (mSub_any 82 rfl (mSub_any 83 rfl mSub_nil)))))))))))))))) hi328 (mSub_any 21 rfl (mSub_any 22 rfl (mSub_any 24 rfl (mSub_any 27 rfl (mSub_any 28 rfl (mSub_any 29 rfl (mSub_any 30 rfl (mSub_any 31 rfl (mSub_any 32 rfl (mSub_any 33 rfl (mSub_any 34 rfl (mSub_any 35 rfl (mSub_any 37 rfl (mSub_any 38 rfl (mSub_any 41 rfl (mSub_any 42 rfl (mSub_any 43 rfl (mSub_any 44 rfl (mSub_any 45 rfl (mSub_any 70 rfl (mSub_any 70 rfl (mSub_any 71 rfl (mSub_any 71 rfl (mSub_any 73 rfl (mSub_any 74 rfl (mSub_any 75 rfl (mSub_any 78 rfl (mSub_any 79 rfl (mSub_any 85 rfl (mSub_any 86 rfl (mSub_any 86 rfl (mSub_any 87 rfl (mSub_any 87 rfl mSub_nil)))))))))))))))))))))))))))))))))) hi482 (mSub_any 7 rfl (mSub_any 11 rfl (mSub_any 12 rfl (mSub_any 13 rfl (mSub_any 15 rfl (mSub_any 16 rfl (mSub_any 17 rfl (mSub_any 19 rfl (mSub_any 45 rfl (mSub_any 77 rfl (mSub_any 78 rfl mSub_nil)))))))))))) hi484 (mSub_any 33 rfl (mSub_any 34 rfl (mSub_eq 84 rfl (mSub_any 86 rfl (mSub_any 87 rfl mSub_nil)))))) hI489) xa (cL.mono L489 (by omega)) hzl hcs hJ489 (rg_w rv309 rfl) (rg_w rv499 rfl) hW (lv_sub hl [1, 2, 3, 4, 5, 0] rfl) rfl
                          · skip
                            replace hW := wfP_i (wfP_r hW) (i_lt (rg_nle c187_497) (rg_i kc_0) rfl)
                            have ic187_497 := Int32.lt_iff_toInt_lt.mp (rg_nle c187_497)
                            have q500 : rg (1) (60) a178_7_487 := (rg_lt (rg_nle c187_497) kc_0 ra178_7_487).2
                            have uq500 : (1 : Int) ≤ a178_7_487.toInt ∧ a178_7_487.toInt ≤ 60 := q500
                            refine lv_aload_n hx hb dX11_arrive_190 rfl (lv_at hl 0 rfl) ?_
                            have al501 : Z.al 9 0 := hz.2 9 0 (show 0 < 1 from (by omega))
                            refine c_getr (a := Z.ad 9 0) x L489 11 i0 5 al490 rfl rfl (wk_in kf_X11_12) dX11_arrive_191 ?_
                            refine lv_aload_n hx hb dX11_arrive_194 rfl (lv_at hl 0 rfl) ?_
                            have al502 : Z.al 34 0 := hz.2 34 0 (show 0 < 1 from (by omega))
                            refine c_getr (a := Z.ad 34 0) x L489 11 i0 6 al490 rfl rfl (wk_in kf_X11_16) dX11_arrive_195 ?_
                            refine lv_iload hx hb dX11_arrive_198 (lv_at hl 6 rfl) ?_
                            refine lv_iload_n hx hb dX11_arrive_200 rfl (lv_at hl 1 rfl) ?_
                            refine lv_iconst (v := 2) hx hb dX11_arrive_201 (by decide) ?_
                            refine lv_irem hx hb dX11_arrive_202 (by decide) ?_
                            refine lv_topi (fun v503 ev503 => ?_)
                            have rv503 : rg (0) (1) v503 := (rg_rem ev503 rp1 kc_2 rfl).1
                            replace hW := (wfP_i (wfP_i (wfP_i (wfP_a hW v503) ev503) rv503) ((rg_rem ev503 rp1 kc_2 rfl).2))
                            have tv503 := (rg_rem ev503 rp1 kc_2 rfl).2
                            have y504 : (2 : Int32).toInt = 2 := by decide
                            have uv503 : (0 : Int) ≤ v503.toInt ∧ v503.toInt ≤ 1 := rv503
                            refine lv_iconst (v := 1) hx hb dX11_arrive_203 (by decide) ?_
                            refine lv_icmp_ne (tgt := 211) hx hb dX11_arrive_204 (by decide) (fun c204_505 => ?_) (fun c204_505 => ?_)
                            · skip
                              replace hW := wfP_i (wfP_l hW) (i_ne c204_505 rfl (rg_i kc_1))
                              have ic204_505 : v503.toInt ≠ (1 : Int32).toInt := fun z => c204_505 (Int32.toInt_inj.mp z)
                              have y506 : (1 : Int32).toInt = 1 := by decide
                              have q507 : rg (0) (0) v503 := rg_neH c204_505 rv503 kc_1
                              have uq507 : (0 : Int) ≤ v503.toInt ∧ v503.toInt ≤ 0 := q507
                              refine lv_iconst (v := 0) hx hb dX11_arrive_211 (by decide) ?_
                              refine c_ci (As := [.ref (Z.ad 34 0), .int a178_7_487, .int (0 : Int32)]) (rest := []) x hml L489 9 0 al501 rfl (d_ksread l (X + (10 * a37_5_292.toInt + 2 + a178_8_488.toInt)) g489 0 0 a178_7_487 (0 : Int32) ⟨by omega, by omega⟩ al501 al502 (rg_w q500 rfl) (rg_w kc_0 rfl) hW) (wk_V kd_X9_read kl_X11_163 ki_X9_read ks_X9_X9_read kn_X9) rfl ⟨rfl, rfl⟩ hd_ksread ⟨Nat.le_of_ble_eq_true rfl, Nat.le_of_ble_eq_true rfl⟩ rfl hl.1 rfl (lv_room (Nat.le_of_ble_eq_true rfl)) dX11_arrive_212 (fun v509 g508 H508 k508 hp508 L508 => ?_) hcs
                              obtain ⟨hW, hi508, hp508⟩ := hp508
                              replace hW := wfP_i hW ⟨hi508, hp508⟩
                              have rv509 : rg (0) (1) v509 := hp508.2.1
                              have uv509 : (0 : Int) ≤ v509.toInt ∧ v509.toInt ≤ 1 := rv509
                              have hw510 := hp508.2.2
                              refine lv_if_eq (tgt := 230) hx hb dX11_arrive_215 (by decide) (fun c215_511 => ?_) (fun c215_511 => ?_)
                              · skip
                                replace hW := wfP_i (wfP_l hW) (i_eq c215_511 rfl (rg_i kc_0))
                                have ic215_511 := congrArg Int32.toInt c215_511
                                have y512 : (0 : Int32).toInt = 0 := by decide
                                have q513 : rg (0) (0) v509 := (rg_eq c215_511 rv509 kc_0).1
                                have uq513 : (0 : Int) ≤ v509.toInt ∧ v509.toInt ≤ 0 := q513
                                refine lv_aload_n hx hb dX11_arrive_230 rfl (lv_at hl 3 rfl) ?_
                                have al514 : Z.al 5 (Z.n + sx289) := hz.2 5 (Z.n + sx289) (show (Z.n + sx289) < 2 * Z.n from (by omega))
                                refine c_getr (a := Z.ad 5 (Z.n + sx289)) x L508 10 sx289 1 al492 rfl rfl (wk_in kf_X11_85) dX11_arrive_231 ?_
                                refine lv_aload_n hx hb dX11_arrive_234 rfl (lv_at hl 0 rfl) ?_
                                refine c_getr (a := Z.ad 34 0) x L508 11 i0 6 al490 rfl rfl (wk_in kf_X11_16) dX11_arrive_235 ?_
                                refine c_ci (As := [.ref (Z.ad 34 0)]) (rest := []) x hml L508 5 (Z.n + sx289) al514 rfl (d_ktakeNext l (X + (10 * a37_5_292.toInt + 2 + a178_8_488.toInt)) g508 (Z.n + sx289) 0 ⟨by omega, by omega⟩ (show (Z.n + sx289) < 2 * Z.n from (by omega)) al502 hW) (wk_V kd_X5_takeNext kl_X11_159 ki_X5_takeNext ks_X5_X5_takeNext kn_X5) rfl ⟨rfl, rfl⟩ hd_ktakeNext ⟨Nat.le_of_ble_eq_true rfl, Nat.le_of_ble_eq_true rfl⟩ rfl hl.1 rfl (lv_room (Nat.le_of_ble_eq_true rfl)) dX11_arrive_238 (fun v516 g515 H515 k515 hp515 L515 => ?_) hcs
                                obtain ⟨hW, hi515, hp515⟩ := hp515
                                replace hW := wfP_i hW ⟨hi515, hp515⟩
                                have rv516 : rg (0) (60) v516 := hp515.2.1
                                have uv516 : (0 : Int) ≤ v516.toInt ∧ v516.toInt ≤ 60 := rv516
                                have L517 := cL.mono L515 (show _ ≤ (X + ((10 * a37_5_292.toInt + 2 + a178_8_488.toInt) + 1)) by omega)
                                refine lv_istore (lv' := [(7, .int v516), (0, .ref (Z.ad 11 i0)), (1, .int p1), (2, .ref (Z.ad 3 q2)), (3, .ref (Z.ad 10 sx289)), (4, .int v309), (5, .int a37_5_292), (8, .int a178_8_488)]) hx hb dX11_arrive_241 hl (by decide) rfl (fun ls hl => ?_)
                                obtain ⟨v518, ev518, fv518⟩ := inc_ex a178_8_488 (1) (1 : Int32) (by decide)
                                have rv518 : rg (1) (8) v518 := (rg_add ev518 q496 kc_1 rfl).1
                                have tv518 := (rg_add ev518 q496 kc_1 rfl).2
                                have yv518 : (1 : Int32).toInt = 1 := by decide
                                replace hW := (wfP_i (wfP_i (wfP_i (wfP_a hW v518) ev518) rv518) (w_iadd tv518 rfl (rg_i kc_1)))
                                refine lv_iinc (v := v518) (lv' := [(8, .int v518), (7, .int v516), (0, .ref (Z.ad 11 i0)), (1, .int p1), (2, .ref (Z.ad 3 q2)), (3, .ref (Z.ad 10 sx289)), (4, .int v309), (5, .int a37_5_292)]) hx hb dX11_arrive_243 hl (k := 7) rfl fv518 (by decide) rfl (fun ls hl => ?_)
                                refine lv_goto (tgt := 178) hx hb dX11_arrive_246 (by decide) ?_
                                exact ih489 _ (ms_up tv518 kc_1 q496 rfl rfl) v516 v518 Z g515 _ _ ls _ _ (mFr.tr (mFr.tr hF489 hp508.1 rfl) hp515.1 rfl) (mFi.sub (mFi.sub hI489 hi508 (mSub_eq 57 rfl (mSub_eq 58 rfl (mSub_eq 59 rfl (mSub_eq 60 rfl (mSub_eq 61 rfl (mSub_eq 62 rfl (mSub_eq 63 rfl (mSub_eq 64 rfl (mSub_eq 65 rfl mSub_nil)))))))))) hi515 (mSub_any 33 rfl (mSub_any 34 rfl (mSub_eq 84 rfl (mSub_any 86 rfl (mSub_any 87 rfl mSub_nil)))))) xa (cL.mono L517 (by omega)) hzl hcs (cJ_fr (cJ_fr hJ489 hp508.1 rfl) hp515.1 rfl) (rg_w rv516 rfl) (rg_w rv518 rfl) hW (lv_sub hl [2, 3, 4, 5, 6, 7, 1, 0] rfl) rfl
                              · skip
                                replace hW := wfP_i (wfP_r hW) (i_ne c215_511 rfl (rg_i kc_0))
                                have ic215_511 : v509.toInt ≠ (0 : Int32).toInt := fun z => c215_511 (Int32.toInt_inj.mp z)
                                have y519 : (0 : Int32).toInt = 0 := by decide
                                have q520 : rg (1) (1) v509 := rg_neL c215_511 rv509 kc_0
                                have uq520 : (1 : Int) ≤ v509.toInt ∧ v509.toInt ≤ 1 := q520
                                refine lv_aload_n hx hb dX11_arrive_218 rfl (lv_at hl 3 rfl) ?_
                                refine lv_aload_n hx hb dX11_arrive_219 rfl (lv_at hl 0 rfl) ?_
                                refine c_getr (a := Z.ad 9 0) x L508 11 i0 5 al490 rfl rfl (wk_in kf_X11_12) dX11_arrive_220 ?_
                                refine lv_aload_n hx hb dX11_arrive_223 rfl (lv_at hl 0 rfl) ?_
                                refine c_geti x L508 11 i0 10 362 al490 rfl rfl (wk_in kf_X11_82) dX11_arrive_224 (fun v521 ev521 wv521 => ?_)
                                have rv521 : rg (-2147483648) (2147483647) v521 := rg_any v521
                                replace hW := (wfP_i (wfP_i (wfP_a hW v521) ev521) rv521)
                                have uv521 : (-2147483648 : Int) ≤ v521.toInt ∧ v521.toInt ≤ 2147483647 := rv521
                                have sv521 : v521.toInt = (g 362 i0).toInt := congrArg Int32.toInt (ev521.trans (congrFun ((show mFr [0, 1, 2, 32, 33, 34, 35, 36, 37, 38, 39, 40, 41, 42, 43, 44, 45, 46, 47, 48, 49, 67, 108, 109, 111, 135, 136, 164, 165, 166, 167, 168, 169, 170, 171, 172, 173, 174, 175, 176, 177, 178, 179, 180, 197, 198, 225, 226, 227, 228, 229, 230, 231, 232, 233, 234, 235, 288, 289, 290, 291, 292, 293, 294, 295, 296, 323, 384, 385, 386, 421, 422, 512, 544, 576, 768, 800, 832, 864, 928, 960, 992, 1024, 1056, 1088, 1248, 1280, 1344, 1536, 1728, 1729] g g508 from (mFr.tr (mFr.tr (mFr.tr (mFr.tr (mFr.tr (mFr.tr (mFr.tr (mFr.tr mFr.rf hF293 rfl) hp307.1 rfl) hp317.1 rfl) hp328.1 rfl) hp482.1 rfl) hp484.1 rfl) hF489 rfl) hp508.1 rfl)).at 362 rfl) _))
                                obtain ⟨n522_0, n522_1, ho522, hW⟩ := wfP_e2 hW
                                have hz0522 := hzl.2.2.2.1
                                have hz1522 := hzl.2.2.2.2
                                refine k_callv xa L508 (k_runU (x := ⟨"CellSwitch$Side", "came", "(LCellSwitch$Signal;I)V"⟩) (As := [.ref (Z.ad 9 0), .int v521]) (rest := []) ⟨hx, hb, hml, x.2.2.2.2.1, x.2.2.1⟩ (d_kcame_10 l (X + (10 * a37_5_292.toInt + 2 + a178_8_488.toInt)) g508 sx289 0 v521 _ n522_0 n522_1 ⟨by omega, by omega⟩ (cJ_fr hJ489 hp508.1 rfl) (by omega) (show sx289 < Z.n from (by omega)) al501 (hw510 (by omega)) hW) (va_cwU 2 x.2.2.1 (wk_U (owner := "CellSwitch$Side") kd_X8_came kl_X11_167 km_CellSwitchSide_CellSwitchSide_came ks_X10_CellSwitchSide_X8_came ki_X8_came kn_X8) rfl rfl rfl rfl (by decide +kernel) ⟨Nat.le_of_ble_eq_true rfl, Nat.le_of_ble_eq_true rfl⟩) ⟨cPreA.blind, c_recv x L508 al492 rfl, fun U hU hW => k_pre xa L508 U hU hW⟩ rfl rfl hl.1 rfl (lv_room (Nat.le_of_ble_eq_true rfl)) dX11_arrive_227 ⟨show c489 + 4 ≤ a by omega, show l489 + (36 + n522_0 + n522_1) ≤ b by omega⟩) (fun  Z g522 H522 k522 kc522 kn522 hk522 hn522 hp522 hz522 xa L522 => ?_)
                                obtain ⟨hW, hi522, hp522⟩ := hp522
                                replace hW := wfP_i (wfP_a (wfP_i hW ⟨hi522, hp522⟩) Z) rfl
                                have hww522 := hp522.2.2.1
                                have ea522_0 := hz522.2.2.1 11 i0 al490 (by omega)
                                have ea522_1 := hz522.2.2.1 3 q2 al491 (by omega)
                                have ea522_2 := hz522.2.2.1 10 sx289 al492 (by omega)
                                rw [← ea522_0] at hl
                                rw [← ea522_1] at hl
                                rw [← ea522_2] at hl
                                have al522_0 := hz522.2.1 11 i0 al490
                                have al522_1 := hz522.2.1 3 q2 al491
                                have al522_2 := hz522.2.1 10 sx289 al492
                                have hZn522 := hz522.1
                                have x := xa.1
                                have hz := x.2.2.2.2.2.2.2.1
                                have hzn := hz.1
                                have hzl := cZl.tr hzl hz522
                                have hcs : c489 + kc522 ≤ a ∧ l489 + kn522 ≤ b := by omega
                                refine lv_aload_n hx hb dX11_arrive_230 rfl (lv_at hl 3 rfl) ?_
                                have al523 : Z.al 5 (Z.n + sx289) := hz.2 5 (Z.n + sx289) (show (Z.n + sx289) < 2 * Z.n from (by omega))
                                refine c_getr (a := Z.ad 5 (Z.n + sx289)) x L522 10 sx289 1 al522_2 rfl rfl (wk_in kf_X11_85) dX11_arrive_231 ?_
                                refine lv_aload_n hx hb dX11_arrive_234 rfl (lv_at hl 0 rfl) ?_
                                have al524 : Z.al 34 0 := hz.2 34 0 (show 0 < 1 from (by omega))
                                refine c_getr (a := Z.ad 34 0) x L522 11 i0 6 al522_0 rfl rfl (wk_in kf_X11_16) dX11_arrive_235 ?_
                                refine c_ci (As := [.ref (Z.ad 34 0)]) (rest := []) x hml L522 5 (Z.n + sx289) al523 rfl (d_ktakeNext l (X + (10 * a37_5_292.toInt + 2 + a178_8_488.toInt)) g522 (Z.n + sx289) 0 ⟨by omega, by omega⟩ (show (Z.n + sx289) < 2 * Z.n from (by omega)) al524 hW) (wk_V kd_X5_takeNext kl_X11_159 ki_X5_takeNext ks_X5_X5_takeNext kn_X5) rfl ⟨rfl, rfl⟩ hd_ktakeNext ⟨Nat.le_of_ble_eq_true rfl, Nat.le_of_ble_eq_true rfl⟩ rfl hl.1 rfl (lv_room (Nat.le_of_ble_eq_true rfl)) dX11_arrive_238 (fun v526 g525 H525 k525 hp525 L525 => ?_) hcs
                                obtain ⟨hW, hi525, hp525⟩ := hp525
                                replace hW := wfP_i hW ⟨hi525, hp525⟩
                                have rv526 : rg (0) (60) v526 := hp525.2.1
                                have uv526 : (0 : Int) ≤ v526.toInt ∧ v526.toInt ≤ 60 := rv526
                                have L527 := cL.mono L525 (show _ ≤ (X + ((10 * a37_5_292.toInt + 2 + a178_8_488.toInt) + 1)) by omega)
                                refine lv_istore (lv' := [(7, .int v526), (0, .ref (Z.ad 11 i0)), (1, .int p1), (2, .ref (Z.ad 3 q2)), (3, .ref (Z.ad 10 sx289)), (4, .int v309), (5, .int a37_5_292), (8, .int a178_8_488)]) hx hb dX11_arrive_241 hl (by decide) rfl (fun ls hl => ?_)
                                obtain ⟨v528, ev528, fv528⟩ := inc_ex a178_8_488 (1) (1 : Int32) (by decide)
                                have rv528 : rg (1) (8) v528 := (rg_add ev528 q496 kc_1 rfl).1
                                have tv528 := (rg_add ev528 q496 kc_1 rfl).2
                                have yv528 : (1 : Int32).toInt = 1 := by decide
                                replace hW := (wfP_i (wfP_i (wfP_i (wfP_a hW v528) ev528) rv528) (w_iadd tv528 rfl (rg_i kc_1)))
                                refine lv_iinc (v := v528) (lv' := [(8, .int v528), (7, .int v526), (0, .ref (Z.ad 11 i0)), (1, .int p1), (2, .ref (Z.ad 3 q2)), (3, .ref (Z.ad 10 sx289)), (4, .int v309), (5, .int a37_5_292)]) hx hb dX11_arrive_243 hl (k := 7) rfl fv528 (by decide) rfl (fun ls hl => ?_)
                                refine lv_goto (tgt := 178) hx hb dX11_arrive_246 (by decide) ?_
                                exact ih489 _ (ms_up tv528 kc_1 q496 rfl rfl) v526 v528 Z g525 _ _ ls _ _ (mFr.tr (mFr.tr (mFr.tr hF489 hp508.1 rfl) hp522.1 rfl) hp525.1 rfl) (mFi.sub (mFi.sub (mFi.sub hI489 hi508 (mSub_eq 57 rfl (mSub_eq 58 rfl (mSub_eq 59 rfl (mSub_eq 60 rfl (mSub_eq 61 rfl (mSub_eq 62 rfl (mSub_eq 63 rfl (mSub_eq 64 rfl (mSub_eq 65 rfl mSub_nil)))))))))) hi522 (mSub_any 3 rfl (mSub_any 4 rfl (mSub_any 5 rfl (mSub_any 6 rfl (mSub_any 7 rfl (mSub_any 8 rfl (mSub_any 9 rfl (mSub_any 10 rfl (mSub_any 11 rfl (mSub_any 12 rfl (mSub_any 13 rfl (mSub_any 14 rfl (mSub_any 15 rfl (mSub_any 16 rfl (mSub_any 17 rfl (mSub_any 18 rfl (mSub_any 19 rfl (mSub_any 20 rfl (mSub_any 45 rfl (mSub_any 66 rfl (mSub_any 67 rfl (mSub_any 68 rfl (mSub_any 69 rfl (mSub_any 77 rfl (mSub_any 78 rfl (mSub_any 89 rfl (mSub_any 90 rfl mSub_nil)))))))))))))))))))))))))))) hi525 (mSub_any 33 rfl (mSub_any 34 rfl (mSub_eq 84 rfl (mSub_any 86 rfl (mSub_any 87 rfl mSub_nil)))))) xa (cL.mono L527 (by omega)) hzl hcs (cJ_fr hp522.2.1 hp525.1 rfl) (rg_w rv526 rfl) (rg_w rv528 rfl) hW (lv_sub hl [2, 3, 4, 5, 6, 7, 1, 0] rfl) rfl
                            · skip
                              replace hW := wfP_i (wfP_r hW) (i_eq c204_505 rfl (rg_i kc_1))
                              have ic204_505 := congrArg Int32.toInt c204_505
                              have y529 : (1 : Int32).toInt = 1 := by decide
                              have q530 : rg (1) (1) v503 := (rg_eq c204_505 rv503 kc_1).1
                              have uq530 : (1 : Int) ≤ v503.toInt ∧ v503.toInt ≤ 1 := q530
                              refine lv_iconst (v := 1) hx hb dX11_arrive_207 (by decide) ?_
                              refine lv_goto (tgt := 212) hx hb dX11_arrive_208 (by decide) ?_
                              refine c_ci (As := [.ref (Z.ad 34 0), .int a178_7_487, .int (1 : Int32)]) (rest := []) x hml L489 9 0 al501 rfl (d_ksread l (X + (10 * a37_5_292.toInt + 2 + a178_8_488.toInt)) g489 0 0 a178_7_487 (1 : Int32) ⟨by omega, by omega⟩ al501 al502 (rg_w q500 rfl) (rg_w kc_1 rfl) hW) (wk_V kd_X9_read kl_X11_163 ki_X9_read ks_X9_X9_read kn_X9) rfl ⟨rfl, rfl⟩ hd_ksread ⟨Nat.le_of_ble_eq_true rfl, Nat.le_of_ble_eq_true rfl⟩ rfl hl.1 rfl (lv_room (Nat.le_of_ble_eq_true rfl)) dX11_arrive_212 (fun v532 g531 H531 k531 hp531 L531 => ?_) hcs
                              obtain ⟨hW, hi531, hp531⟩ := hp531
                              replace hW := wfP_i hW ⟨hi531, hp531⟩
                              have rv532 : rg (0) (1) v532 := hp531.2.1
                              have uv532 : (0 : Int) ≤ v532.toInt ∧ v532.toInt ≤ 1 := rv532
                              have hw533 := hp531.2.2
                              refine lv_if_eq (tgt := 230) hx hb dX11_arrive_215 (by decide) (fun c215_534 => ?_) (fun c215_534 => ?_)
                              · skip
                                replace hW := wfP_i (wfP_l hW) (i_eq c215_534 rfl (rg_i kc_0))
                                have ic215_534 := congrArg Int32.toInt c215_534
                                have y535 : (0 : Int32).toInt = 0 := by decide
                                have q536 : rg (0) (0) v532 := (rg_eq c215_534 rv532 kc_0).1
                                have uq536 : (0 : Int) ≤ v532.toInt ∧ v532.toInt ≤ 0 := q536
                                refine lv_aload_n hx hb dX11_arrive_230 rfl (lv_at hl 3 rfl) ?_
                                have al537 : Z.al 5 (Z.n + sx289) := hz.2 5 (Z.n + sx289) (show (Z.n + sx289) < 2 * Z.n from (by omega))
                                refine c_getr (a := Z.ad 5 (Z.n + sx289)) x L531 10 sx289 1 al492 rfl rfl (wk_in kf_X11_85) dX11_arrive_231 ?_
                                refine lv_aload_n hx hb dX11_arrive_234 rfl (lv_at hl 0 rfl) ?_
                                refine c_getr (a := Z.ad 34 0) x L531 11 i0 6 al490 rfl rfl (wk_in kf_X11_16) dX11_arrive_235 ?_
                                refine c_ci (As := [.ref (Z.ad 34 0)]) (rest := []) x hml L531 5 (Z.n + sx289) al537 rfl (d_ktakeNext l (X + (10 * a37_5_292.toInt + 2 + a178_8_488.toInt)) g531 (Z.n + sx289) 0 ⟨by omega, by omega⟩ (show (Z.n + sx289) < 2 * Z.n from (by omega)) al502 hW) (wk_V kd_X5_takeNext kl_X11_159 ki_X5_takeNext ks_X5_X5_takeNext kn_X5) rfl ⟨rfl, rfl⟩ hd_ktakeNext ⟨Nat.le_of_ble_eq_true rfl, Nat.le_of_ble_eq_true rfl⟩ rfl hl.1 rfl (lv_room (Nat.le_of_ble_eq_true rfl)) dX11_arrive_238 (fun v539 g538 H538 k538 hp538 L538 => ?_) hcs
                                obtain ⟨hW, hi538, hp538⟩ := hp538
                                replace hW := wfP_i hW ⟨hi538, hp538⟩
                                have rv539 : rg (0) (60) v539 := hp538.2.1
                                have uv539 : (0 : Int) ≤ v539.toInt ∧ v539.toInt ≤ 60 := rv539
                                have L540 := cL.mono L538 (show _ ≤ (X + ((10 * a37_5_292.toInt + 2 + a178_8_488.toInt) + 1)) by omega)
                                refine lv_istore (lv' := [(7, .int v539), (0, .ref (Z.ad 11 i0)), (1, .int p1), (2, .ref (Z.ad 3 q2)), (3, .ref (Z.ad 10 sx289)), (4, .int v309), (5, .int a37_5_292), (8, .int a178_8_488)]) hx hb dX11_arrive_241 hl (by decide) rfl (fun ls hl => ?_)
                                obtain ⟨v541, ev541, fv541⟩ := inc_ex a178_8_488 (1) (1 : Int32) (by decide)
                                have rv541 : rg (1) (8) v541 := (rg_add ev541 q496 kc_1 rfl).1
                                have tv541 := (rg_add ev541 q496 kc_1 rfl).2
                                have yv541 : (1 : Int32).toInt = 1 := by decide
                                replace hW := (wfP_i (wfP_i (wfP_i (wfP_a hW v541) ev541) rv541) (w_iadd tv541 rfl (rg_i kc_1)))
                                refine lv_iinc (v := v541) (lv' := [(8, .int v541), (7, .int v539), (0, .ref (Z.ad 11 i0)), (1, .int p1), (2, .ref (Z.ad 3 q2)), (3, .ref (Z.ad 10 sx289)), (4, .int v309), (5, .int a37_5_292)]) hx hb dX11_arrive_243 hl (k := 7) rfl fv541 (by decide) rfl (fun ls hl => ?_)
                                refine lv_goto (tgt := 178) hx hb dX11_arrive_246 (by decide) ?_
                                exact ih489 _ (ms_up tv541 kc_1 q496 rfl rfl) v539 v541 Z g538 _ _ ls _ _ (mFr.tr (mFr.tr hF489 hp531.1 rfl) hp538.1 rfl) (mFi.sub (mFi.sub hI489 hi531 (mSub_eq 57 rfl (mSub_eq 58 rfl (mSub_eq 59 rfl (mSub_eq 60 rfl (mSub_eq 61 rfl (mSub_eq 62 rfl (mSub_eq 63 rfl (mSub_eq 64 rfl (mSub_eq 65 rfl mSub_nil)))))))))) hi538 (mSub_any 33 rfl (mSub_any 34 rfl (mSub_eq 84 rfl (mSub_any 86 rfl (mSub_any 87 rfl mSub_nil)))))) xa (cL.mono L540 (by omega)) hzl hcs (cJ_fr (cJ_fr hJ489 hp531.1 rfl) hp538.1 rfl) (rg_w rv539 rfl) (rg_w rv541 rfl) hW (lv_sub hl [2, 3, 4, 5, 6, 7, 1, 0] rfl) rfl
                              · skip
                                replace hW := wfP_i (wfP_r hW) (i_ne c215_534 rfl (rg_i kc_0))
                                have ic215_534 : v532.toInt ≠ (0 : Int32).toInt := fun z => c215_534 (Int32.toInt_inj.mp z)
                                have y542 : (0 : Int32).toInt = 0 := by decide
                                have q543 : rg (1) (1) v532 := rg_neL c215_534 rv532 kc_0
                                have uq543 : (1 : Int) ≤ v532.toInt ∧ v532.toInt ≤ 1 := q543
                                refine lv_aload_n hx hb dX11_arrive_218 rfl (lv_at hl 3 rfl) ?_
                                refine lv_aload_n hx hb dX11_arrive_219 rfl (lv_at hl 0 rfl) ?_
                                refine c_getr (a := Z.ad 9 0) x L531 11 i0 5 al490 rfl rfl (wk_in kf_X11_12) dX11_arrive_220 ?_
                                refine lv_aload_n hx hb dX11_arrive_223 rfl (lv_at hl 0 rfl) ?_
                                refine c_geti x L531 11 i0 10 362 al490 rfl rfl (wk_in kf_X11_82) dX11_arrive_224 (fun v544 ev544 wv544 => ?_)
                                have rv544 : rg (-2147483648) (2147483647) v544 := rg_any v544
                                replace hW := (wfP_i (wfP_i (wfP_a hW v544) ev544) rv544)
                                have uv544 : (-2147483648 : Int) ≤ v544.toInt ∧ v544.toInt ≤ 2147483647 := rv544
                                have sv544 : v544.toInt = (g 362 i0).toInt := congrArg Int32.toInt (ev544.trans (congrFun ((show mFr [0, 1, 2, 32, 33, 34, 35, 36, 37, 38, 39, 40, 41, 42, 43, 44, 45, 46, 47, 48, 49, 67, 108, 109, 111, 135, 136, 164, 165, 166, 167, 168, 169, 170, 171, 172, 173, 174, 175, 176, 177, 178, 179, 180, 197, 198, 225, 226, 227, 228, 229, 230, 231, 232, 233, 234, 235, 288, 289, 290, 291, 292, 293, 294, 295, 296, 323, 384, 385, 386, 421, 422, 512, 544, 576, 768, 800, 832, 864, 928, 960, 992, 1024, 1056, 1088, 1248, 1280, 1344, 1536, 1728, 1729] g g531 from (mFr.tr (mFr.tr (mFr.tr (mFr.tr (mFr.tr (mFr.tr (mFr.tr (mFr.tr mFr.rf hF293 rfl) hp307.1 rfl) hp317.1 rfl) hp328.1 rfl) hp482.1 rfl) hp484.1 rfl) hF489 rfl) hp531.1 rfl)).at 362 rfl) _))
                                obtain ⟨n545_0, n545_1, ho545, hW⟩ := wfP_e2 hW
                                have hz0545 := hzl.2.2.2.1
                                have hz1545 := hzl.2.2.2.2
                                refine k_callv xa L531 (k_runU (x := ⟨"CellSwitch$Side", "came", "(LCellSwitch$Signal;I)V"⟩) (As := [.ref (Z.ad 9 0), .int v544]) (rest := []) ⟨hx, hb, hml, x.2.2.2.2.1, x.2.2.1⟩ (d_kcame_10 l (X + (10 * a37_5_292.toInt + 2 + a178_8_488.toInt)) g531 sx289 0 v544 _ n545_0 n545_1 ⟨by omega, by omega⟩ (cJ_fr hJ489 hp531.1 rfl) (by omega) (show sx289 < Z.n from (by omega)) al501 (hw533 (by omega)) hW) (va_cwU 2 x.2.2.1 (wk_U (owner := "CellSwitch$Side") kd_X8_came kl_X11_167 km_CellSwitchSide_CellSwitchSide_came ks_X10_CellSwitchSide_X8_came ki_X8_came kn_X8) rfl rfl rfl rfl (by decide +kernel) ⟨Nat.le_of_ble_eq_true rfl, Nat.le_of_ble_eq_true rfl⟩) ⟨cPreA.blind, c_recv x L531 al492 rfl, fun U hU hW => k_pre xa L531 U hU hW⟩ rfl rfl hl.1 rfl (lv_room (Nat.le_of_ble_eq_true rfl)) dX11_arrive_227 ⟨show c489 + 4 ≤ a by omega, show l489 + (36 + n545_0 + n545_1) ≤ b by omega⟩) (fun  Z g545 H545 k545 kc545 kn545 hk545 hn545 hp545 hz545 xa L545 => ?_)
                                obtain ⟨hW, hi545, hp545⟩ := hp545
                                replace hW := wfP_i (wfP_a (wfP_i hW ⟨hi545, hp545⟩) Z) rfl
                                have hww545 := hp545.2.2.1
                                have ea545_0 := hz545.2.2.1 11 i0 al490 (by omega)
                                have ea545_1 := hz545.2.2.1 3 q2 al491 (by omega)
                                have ea545_2 := hz545.2.2.1 10 sx289 al492 (by omega)
                                rw [← ea545_0] at hl
                                rw [← ea545_1] at hl
                                rw [← ea545_2] at hl
                                have al545_0 := hz545.2.1 11 i0 al490
                                have al545_1 := hz545.2.1 3 q2 al491
                                have al545_2 := hz545.2.1 10 sx289 al492
                                have hZn545 := hz545.1
                                have x := xa.1
                                have hz := x.2.2.2.2.2.2.2.1
                                have hzn := hz.1
                                have hzl := cZl.tr hzl hz545
                                have hcs : c489 + kc545 ≤ a ∧ l489 + kn545 ≤ b := by omega
                                refine lv_aload_n hx hb dX11_arrive_230 rfl (lv_at hl 3 rfl) ?_
                                have al546 : Z.al 5 (Z.n + sx289) := hz.2 5 (Z.n + sx289) (show (Z.n + sx289) < 2 * Z.n from (by omega))
                                refine c_getr (a := Z.ad 5 (Z.n + sx289)) x L545 10 sx289 1 al545_2 rfl rfl (wk_in kf_X11_85) dX11_arrive_231 ?_
                                refine lv_aload_n hx hb dX11_arrive_234 rfl (lv_at hl 0 rfl) ?_
                                have al547 : Z.al 34 0 := hz.2 34 0 (show 0 < 1 from (by omega))
                                refine c_getr (a := Z.ad 34 0) x L545 11 i0 6 al545_0 rfl rfl (wk_in kf_X11_16) dX11_arrive_235 ?_
                                refine c_ci (As := [.ref (Z.ad 34 0)]) (rest := []) x hml L545 5 (Z.n + sx289) al546 rfl (d_ktakeNext l (X + (10 * a37_5_292.toInt + 2 + a178_8_488.toInt)) g545 (Z.n + sx289) 0 ⟨by omega, by omega⟩ (show (Z.n + sx289) < 2 * Z.n from (by omega)) al547 hW) (wk_V kd_X5_takeNext kl_X11_159 ki_X5_takeNext ks_X5_X5_takeNext kn_X5) rfl ⟨rfl, rfl⟩ hd_ktakeNext ⟨Nat.le_of_ble_eq_true rfl, Nat.le_of_ble_eq_true rfl⟩ rfl hl.1 rfl (lv_room (Nat.le_of_ble_eq_true rfl)) dX11_arrive_238 (fun v549 g548 H548 k548 hp548 L548 => ?_) hcs
                                obtain ⟨hW, hi548, hp548⟩ := hp548
                                replace hW := wfP_i hW ⟨hi548, hp548⟩
                                have rv549 : rg (0) (60) v549 := hp548.2.1
                                have uv549 : (0 : Int) ≤ v549.toInt ∧ v549.toInt ≤ 60 := rv549
                                have L550 := cL.mono L548 (show _ ≤ (X + ((10 * a37_5_292.toInt + 2 + a178_8_488.toInt) + 1)) by omega)
                                refine lv_istore (lv' := [(7, .int v549), (0, .ref (Z.ad 11 i0)), (1, .int p1), (2, .ref (Z.ad 3 q2)), (3, .ref (Z.ad 10 sx289)), (4, .int v309), (5, .int a37_5_292), (8, .int a178_8_488)]) hx hb dX11_arrive_241 hl (by decide) rfl (fun ls hl => ?_)
                                obtain ⟨v551, ev551, fv551⟩ := inc_ex a178_8_488 (1) (1 : Int32) (by decide)
                                have rv551 : rg (1) (8) v551 := (rg_add ev551 q496 kc_1 rfl).1
                                have tv551 := (rg_add ev551 q496 kc_1 rfl).2
                                have yv551 : (1 : Int32).toInt = 1 := by decide
                                replace hW := (wfP_i (wfP_i (wfP_i (wfP_a hW v551) ev551) rv551) (w_iadd tv551 rfl (rg_i kc_1)))
                                refine lv_iinc (v := v551) (lv' := [(8, .int v551), (7, .int v549), (0, .ref (Z.ad 11 i0)), (1, .int p1), (2, .ref (Z.ad 3 q2)), (3, .ref (Z.ad 10 sx289)), (4, .int v309), (5, .int a37_5_292)]) hx hb dX11_arrive_243 hl (k := 7) rfl fv551 (by decide) rfl (fun ls hl => ?_)
                                refine lv_goto (tgt := 178) hx hb dX11_arrive_246 (by decide) ?_
                                exact ih489 _ (ms_up tv551 kc_1 q496 rfl rfl) v549 v551 Z g548 _ _ ls _ _ (mFr.tr (mFr.tr (mFr.tr hF489 hp531.1 rfl) hp545.1 rfl) hp548.1 rfl) (mFi.sub (mFi.sub (mFi.sub hI489 hi531 (mSub_eq 57 rfl (mSub_eq 58 rfl (mSub_eq 59 rfl (mSub_eq 60 rfl (mSub_eq 61 rfl (mSub_eq 62 rfl (mSub_eq 63 rfl (mSub_eq 64 rfl (mSub_eq 65 rfl mSub_nil)))))))))) hi545 (mSub_any 3 rfl (mSub_any 4 rfl (mSub_any 5 rfl (mSub_any 6 rfl (mSub_any 7 rfl (mSub_any 8 rfl (mSub_any 9 rfl (mSub_any 10 rfl (mSub_any 11 rfl (mSub_any 12 rfl (mSub_any 13 rfl (mSub_any 14 rfl (mSub_any 15 rfl (mSub_any 16 rfl (mSub_any 17 rfl (mSub_any 18 rfl (mSub_any 19 rfl (mSub_any 20 rfl (mSub_any 45 rfl (mSub_any 66 rfl (mSub_any 67 rfl (mSub_any 68 rfl (mSub_any 69 rfl (mSub_any 77 rfl (mSub_any 78 rfl (mSub_any 89 rfl (mSub_any 90 rfl mSub_nil)))))))))))))))))))))))))))) hi548 (mSub_any 33 rfl (mSub_any 34 rfl (mSub_eq 84 rfl (mSub_any 86 rfl (mSub_any 87 rfl mSub_nil)))))) xa (cL.mono L550 (by omega)) hzl hcs (cJ_fr hp545.2.1 hp548.1 rfl) (rg_w rv549 rfl) (rg_w rv551 rfl) hW (lv_sub hl [2, 3, 4, 5, 6, 7, 1, 0] rfl) rfl
                    have y552 : (0 : Int32).toInt = 0 := by decide
                    exact j178_489 _ v485 (0 : Int32) Z g484 _ _ ls _ _ mFr.rf mFi.rf xa (cL.mono L486 (by omega)) hzl hcs (cJ_fr hp482.2.1 hp484.1 rfl) (rg_w rv485 rfl) (rg_w kc_0 rfl) hW (lv_sub hl [4, 5, 6, 7, 3, 8, 1, 0] rfl) rfl
                · skip
                  replace hW := wfP_i (wfP_r hW) (i_eq c92_320 rfl (rg_i kc_0))
                  have ic92_320 := congrArg Int32.toInt c92_320
                  have y553 : (0 : Int32).toInt = 0 := by decide
                  have q554 : rg (0) (0) v318 := (rg_eq c92_320 rv318 kc_0).1
                  have uq554 : (0 : Int) ≤ v318.toInt ∧ v318.toInt ≤ 0 := q554
                  refine lv_goto (tgt := 249) hx hb dX11_arrive_95 (by decide) ?_
                  obtain ⟨v555, ev555, fv555⟩ := inc_ex a37_5_292 (1) (1 : Int32) (by decide)
                  have rv555 : rg (1) (212) v555 := (rg_add ev555 q299 kc_1 rfl).1
                  have tv555 := (rg_add ev555 q299 kc_1 rfl).2
                  have yv555 : (1 : Int32).toInt = 1 := by decide
                  replace hW := (wfP_i (wfP_i (wfP_i (wfP_a hW v555) ev555) rv555) (w_iadd tv555 rfl (rg_i kc_1)))
                  refine lv_iinc (v := v555) (lv' := [(5, .int v555), (4, .int v309), (0, .ref (Z.ad 11 i0)), (1, .int p1), (2, .ref (Z.ad 3 q2)), (3, .ref (Z.ad 10 sx289))]) hx hb dX11_arrive_249 hl (k := 5) rfl fv555 (by decide) rfl (fun ls hl => ?_)
                  refine lv_goto (tgt := 37) hx hb dX11_arrive_252 (by decide) ?_
                  exact ih293 _ (ms_up tv555 kc_1 q299 rfl rfl) v309 v555 Z g317 _ _ ls _ _ (mFr.tr (mFr.tr hF293 hp307.1 rfl) hp317.1 rfl) (mFi.sub (mFi.sub hI293 hi307 (mSub_eq 46 rfl (mSub_eq 47 rfl (mSub_eq 48 rfl (mSub_eq 49 rfl (mSub_eq 50 rfl (mSub_eq 51 rfl (mSub_eq 52 rfl (mSub_eq 53 rfl (mSub_eq 54 rfl (mSub_eq 55 rfl (mSub_eq 56 rfl (mSub_eq 76 rfl mSub_nil))))))))))))) hi317 (mSub_any 0 rfl (mSub_any 1 rfl (mSub_any 2 rfl (mSub_any 17 rfl (mSub_any 21 rfl (mSub_any 22 rfl (mSub_eq 23 rfl (mSub_any 26 rfl (mSub_any 72 rfl (mSub_any 73 rfl (mSub_any 74 rfl (mSub_any 80 rfl (mSub_any 81 rfl (mSub_any 82 rfl (mSub_any 83 rfl mSub_nil)))))))))))))))) xa (cL.mono L319 (by omega)) hzl hcs hp317.2.2.1 (rg_w rv309 rfl) (rg_w rv555 rfl) hW (lv_sub hl [2, 3, 4, 5, 1, 0] rfl) rfl
      have y556 : (0 : Int32).toInt = 0 := by decide
      have y557 : (0 : Int32).toInt = 0 := by decide
      exact j37_293 _ (0 : Int32) (0 : Int32) Z g _ _ ls _ _ mFr.rf mFi.rf xa (cL.mono L (by omega)) hzl hcs hJ (rg_w kc_0 rfl) (rg_w kc_0 rfl) hW (lv_sub hl [3, 4, 5, 2, 1, 0] rfl) rfl
theorem d_karrive (l : Launch) {G : cG} {Z : cZ} (X : Int) (g : mSt) (i0 : Nat) (p1 : Int32) (q2 : Nat) (sz a b TC TS : Nat) (hX : 0 ≤ X ∧ (X + 2120) ≤ 2000000000) (hJ : cJ Z g) (hTC : Z.w 0 + a = TC) (hTS : Z.w 1 + b = TS) (hal0 : Z.al 11 i0) (rp1 : rg (0) (7) p1) (hq2 : Z.al 3 q2) (hd : p1.toInt < 2 * (Z.n : Int) ∧ q2 < 2 * Z.n) {Φ : Int32 → cZ → mSt → Prop} (hW : wfP (wp_karrive TC TS Z i0 p1 q2 g Φ)) : Met l yX11_arrive (wk (Cond.code yX11_arrive cX11_arrive 9 none)) (rm_karrive a b) (va_Pc [.ref (Z.ad 11 i0), .int p1, .ref (Z.ad 3 q2)] (cPreA G Z X g sz)) (kE a b (cAf Z sz) (cQvA G Z (X + 2120) (fun Z1 g1 => wfP (Φ 0 Z1 g1) ∧ mFi (im_karrive i0 p1 q2) g g1 ∧ (mFr [0, 1, 2, 32, 33, 34, 35, 36, 37, 38, 39, 40, 41, 42, 43, 44, 45, 46, 47, 48, 49, 67, 108, 109, 111, 135, 136, 164, 165, 166, 167, 168, 169, 170, 171, 172, 173, 174, 175, 176, 177, 178, 179, 180, 197, 198, 225, 226, 227, 228, 229, 230, 231, 232, 233, 234, 235, 288, 289, 290, 291, 292, 293, 294, 295, 296, 323, 384, 385, 386, 421, 422, 512, 544, 576, 768, 800, 832, 864, 928, 960, 992, 1024, 1056, 1088, 1248, 1280, 1344, 1536, 1728, 1729] g g1 ∧ cJ Z1 g1 ∧ True)))) a b (cAf Z sz) := by
  refine Met.ofW (cc := cX11_arrive) (maxL := 9) (ret := none) (by decide) rfl ?_
  intro p e s m args below meth c s₁ B hml hv
  obtain ⟨hav, hv⟩ := hv
  have hsz0 := hv.2.1
  subst hsz0
  have hr := B.returns
  have hlocks := B.notSynchronized
  obtain ⟨xa, L⟩ := k_start B rfl (fun w h => wk_in h) hv
  have hent : entryFrame m args 9 = entryFrame m ([.ref (Z.ad 11 i0), .int p1, .ref (Z.ad 3 q2)] : List Value).toArray 9 := by rw [hav]
  rw [hent]
  have hl := lv_entry ([.ref (Z.ad 11 i0), .int p1, .ref (Z.ad 3 q2)]) (n := 9) (Nat.le_of_ble_eq_true rfl)
  rw [lg_entry_eq]
  generalize (lg_sl ([.ref (Z.ad 11 i0), .int p1, .ref (Z.ad 3 q2)]) ++ List.replicate (9 - (lg_sl ([.ref (Z.ad 11 i0), .int p1, .ref (Z.ad 3 q2)])).length) Slot.unset).toArray = ls at hl ⊢
  have hl : lv_has ls 9 [(0, .ref (Z.ad 11 i0)), (1, .int p1), (2, .ref (Z.ad 3 q2))] := hl
  exact v_karrive xa hml L hTC hTS hX i0 p1 q2 hJ hal0 rp1 hq2 hd hW hl (fun pc' ls' Z1 g1 H1 locs1 c1 l1 hdg xa L hz hcs hp => k_vret xa L hr hlocks (Int.le_refl _) hz hp hcs.1 hcs.2 hdg)

def im_ktick (i0 : Nat) (p1 : Int32) : List (Nat × Nat × Nat) := [(0, 0, 0), (1, 0, 0), (2, 0, 0), (32, 0, 0), (33, 0, 0), (34, 0, 0), (35, 0, 0), (36, 0, 0), (37, 0, 0), (38, 0, 0), (39, 0, 0), (40, 0, 0), (41, 0, 0), (42, 0, 0), (43, 0, 0), (44, 0, 0), (45, 0, 0), (46, 0, 0), (47, 0, 0), (48, 0, 0), (49, 0, 0), (66, 0, 0), (67, 0, 0), (101, 0, 0), (106, 0, 0), (107, 0, 0), (108, 0, 0), (109, 0, 0), (111, 0, 0), (135, 0, 0), (136, 0, 0), (164, 0, 0), (165, 0, 0), (166, 0, 0), (167, 0, 0), (168, 0, 0), (169, 0, 0), (170, 0, 0), (171, 0, 0), (172, 0, 0), (173, 0, 0), (174, 0, 0), (175, 0, 0), (176, 0, 0), (177, 0, 0), (178, 0, 0), (179, 0, 0), (180, 0, 0), (197, 0, 0), (198, 0, 0), (225, 0, 0), (226, 0, 0), (227, 0, 0), (228, 0, 0), (229, 0, 0), (230, 0, 0), (231, 0, 0), (232, 0, 0), (233, 0, 0), (234, 0, 0), (235, 0, 0), (288, 0, 1), (289, 0, 1), (290, 0, 1), (291, 0, 1), (292, 0, 1), (293, 0, 1), (294, 0, 1), (295, 0, 1), (296, 0, 1), (323, 0, 0), (362, i0, 1), (363, i0, 1), (384, 0, 0), (385, 0, 0), (386, 0, 0), (421, 0, 0), (422, 0, 0), (512, 0, 0), (544, 0, 0), (576, 0, 0), (608, 0, 0), (640, 0, 0), (672, 0, 0), (704, 0, 0), (736, 0, 0), (768, 0, 0), (800, 0, 0), (832, 0, 0), (864, 0, 0), (928, 0, 0), (960, 0, 0), (992, 0, 0), (1024, 0, 0), (1056, 0, 0), (1088, 0, 8192), (1248, 0, 0), (1280, 0, 0), (1312, 0, 0), (1344, 0, 0), (1536, 0, 0), (1728, 0, 0), (1729, 0, 0)]
def po_ktick (Z : cZ) (i0 : Nat) (p1 : Int32) (g : mSt) (r : Int32) (Z1 : cZ) (g1 : mSt) : Prop := mFi (im_ktick i0 p1) g g1 ∧ mFr [0, 1, 2, 32, 33, 34, 35, 36, 37, 38, 39, 40, 41, 42, 43, 44, 45, 46, 47, 48, 49, 66, 67, 101, 106, 107, 108, 109, 111, 135, 136, 164, 165, 166, 167, 168, 169, 170, 171, 172, 173, 174, 175, 176, 177, 178, 179, 180, 197, 198, 225, 226, 227, 228, 229, 230, 231, 232, 233, 234, 235, 288, 289, 290, 291, 292, 293, 294, 295, 296, 323, 362, 363, 384, 385, 386, 421, 422, 512, 544, 576, 608, 640, 672, 704, 736, 768, 800, 832, 864, 928, 960, 992, 1024, 1056, 1088, 1248, 1280, 1312, 1344, 1536, 1728, 1729] g g1 ∧ rg (-2147483648) (2147483647) r ∧ cJ Z1 g1 ∧ True
def wp_ktick (TC TS : Nat) (Z0 : cZ) (i0 : Nat) (p1 : Int32) (g : mSt) (Φ : Int32 → cZ → mSt → Prop) : Prop :=
  ∀ Z : cZ, Z = Z0 → ((p1.toInt < 1) → Φ (-1 : Int32) Z g) ∧ ((1 ≤ p1.toInt) → ((p1.toInt ≤ 50) → ∃ P7 : Int32 → cZ → mSt → Prop, (∀ (a15_2_6 : Int32) (Z : cZ) (g7 : mSt), mFr [0, 1, 2, 32, 33, 34, 35, 36, 37, 38, 39, 40, 41, 42, 43, 44, 45, 46, 47, 48, 49, 66, 67, 101, 106, 107, 108, 109, 111, 135, 136, 164, 165, 166, 167, 168, 169, 170, 171, 172, 173, 174, 175, 176, 177, 178, 179, 180, 197, 198, 225, 226, 227, 228, 229, 230, 231, 232, 233, 234, 235, 288, 289, 290, 291, 292, 293, 294, 295, 296, 323, 362, 363, 384, 385, 386, 421, 422, 512, 544, 576, 608, 640, 672, 704, 736, 768, 800, 832, 864, 928, 960, 992, 1024, 1056, 1088, 1248, 1280, 1312, 1344, 1536, 1728, 1729] g g7 → mFi (im_ktick i0 p1) g g7 → cJ Z g7 → Z.n = Z0.n → rg (0) (50) a15_2_6 → P7 a15_2_6 Z g7 → ((p1.toInt ≤ a15_2_6.toInt) → ∀ (v11 : Int32), v11 = g7 362 i0 → rg (-2147483648) (2147483647) v11 → Φ v11 Z g7) ∧ ((a15_2_6.toInt < p1.toInt) → ∀ (v13 : Int32), v13 = g7 362 i0 → rg (-2147483648) (2147483647) v13 → ∀ (v14 : Int32), v14 = v13 + (1 : Int32) → rg (-2147483648) (2147483647) v14 → ∀ (g15 : mSt), g15 = up2 g7 362 i0 v14 → ∃ P17 : Int32 → cZ → mSt → Prop, (∀ (a32_3_16 : Int32) (Z : cZ) (g17 : mSt), mFr [36, 40, 41, 42, 44, 45, 46, 48, 67, 108, 111, 164, 165, 166, 167, 168, 169, 170, 171, 172, 173, 176, 177, 178, 179, 197, 198, 421, 422, 544, 576, 768, 832, 864, 928, 1248, 1280, 1312, 1344] g15 g17 → mFi (im_ktick i0 p1) g15 g17 → cJ Z g17 → Z.n = Z0.n → rg (0) (8) a32_3_16 → P17 a32_3_16 Z g17 → ∀ (v20 : Int32), v20.toInt = (((2 * Z.n) : Nat) : Int) → rg (4) (8) v20 → ((v20.toInt ≤ a32_3_16.toInt) → ∃ P24 : Int32 → cZ → mSt → Prop, (∀ (a102_3_23 : Int32) (Z : cZ) (g24 : mSt), mFr [47, 48, 49, 67, 108, 544, 576] g17 g24 → mFi (im_ktick i0 p1) g17 g24 → cJ Z g24 → Z.n = Z0.n → rg (0) (4) a102_3_23 → P24 a102_3_23 Z g24 → ∀ (v26 : Int32), v26.toInt = (Z.n : Int) → rg (2) (4) v26 → ((v26.toInt ≤ a102_3_23.toInt) → ∃ P30 : Int32 → cZ → mSt → Prop, (∀ (a135_3_29 : Int32) (Z : cZ) (g30 : mSt), mFr [66, 67, 101, 106, 107, 363, 608, 640, 672, 704, 736] g24 g30 → mFi (im_ktick i0 p1) g24 g30 → cJ Z g30 → Z.n = Z0.n → rg (0) (8) a135_3_29 → P30 a135_3_29 Z g30 → ∀ (v33 : Int32), v33.toInt = (((2 * Z.n) : Nat) : Int) → rg (4) (8) v33 → ((v33.toInt ≤ a135_3_29.toInt) → ∃ P37 : Int32 → cZ → mSt → Prop, (∀ (a170_3_36 : Int32) (Z : cZ) (g37 : mSt), mFr [0, 1, 2, 32, 33, 34, 35, 36, 37, 38, 39, 40, 41, 42, 43, 44, 45, 46, 47, 48, 49, 67, 108, 109, 111, 135, 136, 164, 165, 166, 167, 168, 169, 170, 171, 172, 173, 174, 175, 176, 177, 178, 179, 180, 197, 198, 225, 226, 227, 228, 229, 230, 231, 232, 233, 234, 235, 288, 289, 290, 291, 292, 293, 294, 295, 296, 323, 384, 385, 386, 421, 422, 512, 544, 576, 768, 800, 832, 864, 928, 960, 992, 1024, 1056, 1088, 1248, 1280, 1344, 1536, 1728, 1729] g30 g37 → mFi (im_ktick i0 p1) g30 g37 → cJ Z g37 → Z.n = Z0.n → rg (0) (8) a170_3_36 → P37 a170_3_36 Z g37 → ∀ (v40 : Int32), v40.toInt = (((2 * Z.n) : Nat) : Int) → rg (4) (8) v40 → ((v40.toInt ≤ a170_3_36.toInt) → ∀ (v43 : Int32), v43 = a15_2_6 + (1 : Int32) → rg (1) (50) v43 → v43.toInt = a15_2_6.toInt + 1 → P7 v43 Z g37) ∧ ((a170_3_36.toInt < v40.toInt) → wp_karrive TC TS Z i0 a170_3_36 a170_3_36.toInt.toNat g37 (fun (_ : Int32) (Z_46 : cZ) (g46 : mSt) => po_karrive Z i0 a170_3_36 a170_3_36.toInt.toNat g37 0 Z_46 g46 → ∀ Z : cZ, Z = Z_46 → ∀ (v48 : Int32), v48 = a170_3_36 + (1 : Int32) → rg (1) (8) v48 → v48.toInt = a170_3_36.toInt + 1 → P37 v48 Z g46))) ∧ P37 (0 : Int32) Z g30) ∧ ((a135_3_29.toInt < v33.toInt) → ∀ (v51 : Int32), v51 = g30 363 i0 → rg (-2147483648) (2147483647) v51 → wp_kputCells Z a135_3_29.toInt.toNat g30 (fun (v54 : Int32) (g53 : mSt) => po_kputCells Z a135_3_29.toInt.toNat g30 v54 g53 → ∀ (v55 : Int32), v55 = v51 + v54 → rg (-2147483648) (2147483647) v55 → ∀ (g56 : mSt), g56 = up2 g53 363 i0 v55 → ∀ (v57 : Int32), v57 = a135_3_29 + (1 : Int32) → rg (1) (8) v57 → v57.toInt = a135_3_29.toInt + 1 → P30 v57 Z g56))) ∧ P30 (0 : Int32) Z g24) ∧ ((a102_3_23.toInt < v26.toInt) → ∀ (v63 : Int32), v63 = (2 : Int32) * a102_3_23 → rg (0) (6) v63 → v63.toInt = a102_3_23.toInt * 2 → wp_kesendCells Z a102_3_23.toInt.toNat v63.toInt.toNat g24 (fun (_ : Int32) (g66 : mSt) => po_kesendCells Z a102_3_23.toInt.toNat v63.toInt.toNat g24 0 g66 → ∀ (v67 : Int32), v67 = a102_3_23 + (1 : Int32) → rg (1) (4) v67 → v67.toInt = a102_3_23.toInt + 1 → P24 v67 Z g66))) ∧ P24 (0 : Int32) Z g17) ∧ ((a32_3_16.toInt < v20.toInt) → ((a32_3_16.toInt.toNat < Z.n) → ∀ (v74 : Int32), v74 = g17 362 i0 → rg (-2147483648) (2147483647) v74 → wp_ktimers Z a32_3_16.toInt.toNat v74 g17 (fun (v76 : Int32) (g75 : mSt) => po_ktimers Z a32_3_16.toInt.toNat v74 g17 v76 g75 → ((v76.toInt = 0) → wp_kcallTimers_4 Z a32_3_16.toInt.toNat v74 g75 (fun (_ : Int32) (g81 : mSt) => po_kcallTimers_4 Z a32_3_16.toInt.toNat v74 g75 0 g81 → wp_kturn Z a32_3_16.toInt.toNat v74 g81 (fun (_ : Int32) (g83 : mSt) => po_kturn Z a32_3_16.toInt.toNat v74 g81 0 g83 → ∀ (v84 : Int32), v84 = a32_3_16 + (1 : Int32) → rg (1) (8) v84 → v84.toInt = a32_3_16.toInt + 1 → P17 v84 Z g83))) ∧ ((v76.toInt ≠ 0) → wp_kallOver_4 Z a32_3_16.toInt.toNat v74 g75 (fun (_ : Int32) (g88 : mSt) => po_kallOver_4 Z a32_3_16.toInt.toNat v74 g75 0 g88 → wp_kcallTimers_4 Z a32_3_16.toInt.toNat v74 g88 (fun (_ : Int32) (g90 : mSt) => po_kcallTimers_4 Z a32_3_16.toInt.toNat v74 g88 0 g90 → wp_kturn Z a32_3_16.toInt.toNat v74 g90 (fun (_ : Int32) (g92 : mSt) => po_kturn Z a32_3_16.toInt.toNat v74 g90 0 g92 → ∀ (v93 : Int32), v93 = a32_3_16 + (1 : Int32) → rg (1) (8) v93 → v93.toInt = a32_3_16.toInt + 1 → P17 v93 Z g92)))))) ∧ ((Z.n ≤ a32_3_16.toInt.toNat) → ∀ (sx94 : Nat), sx94 = (a32_3_16.toInt.toNat - Z.n) → ∀ (v97 : Int32), v97 = g17 362 i0 → rg (-2147483648) (2147483647) v97 → wp_ktimers Z (Z.n + sx94) v97 g17 (fun (v99 : Int32) (g98 : mSt) => po_ktimers Z (Z.n + sx94) v97 g17 v99 g98 → ((v99.toInt = 0) → wp_kcallTimers_10 Z sx94 v97 g98 (fun (_ : Int32) (g104 : mSt) => po_kcallTimers_10 Z sx94 v97 g98 0 g104 → wp_kturn Z (Z.n + sx94) v97 g104 (fun (_ : Int32) (g106 : mSt) => po_kturn Z (Z.n + sx94) v97 g104 0 g106 → ∀ (v107 : Int32), v107 = a32_3_16 + (1 : Int32) → rg (1) (8) v107 → v107.toInt = a32_3_16.toInt + 1 → P17 v107 Z g106))) ∧ ((v99.toInt ≠ 0) → wp_kallOver_10 Z sx94 v97 g98 (fun (_ : Int32) (g111 : mSt) => po_kallOver_10 Z sx94 v97 g98 0 g111 → wp_kcallTimers_10 Z sx94 v97 g111 (fun (_ : Int32) (g113 : mSt) => po_kcallTimers_10 Z sx94 v97 g111 0 g113 → wp_kturn Z (Z.n + sx94) v97 g113 (fun (_ : Int32) (g115 : mSt) => po_kturn Z (Z.n + sx94) v97 g113 0 g115 → ∀ (v116 : Int32), v116 = a32_3_16 + (1 : Int32) → rg (1) (8) v116 → v116.toInt = a32_3_16.toInt + 1 → P17 v116 Z g115)))))))) ∧ P17 (0 : Int32) Z g15)) ∧ P7 (0 : Int32) Z g) ∧ ((50 < p1.toInt) → Φ (-1 : Int32) Z g))
def rm_ktick (a b : Nat) : Room := { frames := 12, cells := a, slots := b, locals := 281 }
theorem hd_ktick : yX11_tick.cls = cRn 11 ∧ yX11_tick.cls ≠ "java/lang/invoke/MethodHandle" ∧ yX11_tick.cls ≠ "java/lang/invoke/VarHandle" ∧ (parseMethodDescriptor yX11_tick.desc).map (fun d => d.parameters.length) = some 1 := by decide +kernel
set_option maxHeartbeats 8000000 in
set_option maxRecDepth 100000 in
theorem v_ktick {p : Program} {l : Launch} {e : Env} {s : State} {m : MethodId} {args : Array Value} {below : List Frame} {meth : Method} {c : Code} {H : Heap} {locs : List Loc} {Q : State → Prop} {ls : Array Slot} {G : cG} {Z0 : cZ} {A : Nat → Prop} {g : mSt} {H0 : Heap} {X : Int} {a b TC TS : Nat} (xa : cXA p c cX11_tick s args (wk (Cond.code yX11_tick cX11_tick 5 (some .int))) m G Z0 A RX11 H0) (hml : c.maxLocals = 5) (L : cL G Z0 A H0 X g H locs) (hTC : Z0.w 0 + a = TC) (hTS : Z0.w 1 + b = TS) (hX : 0 ≤ X ∧ (X + 848000) ≤ 2000000000) (i0 : Nat) (p1 : Int32) (hJ : cJ Z0 g) (hal0 : Z0.al 11 i0) {Φ : Int32 → cZ → mSt → Prop} (hW : wfP (wp_ktick TC TS Z0 i0 p1 g Φ)) (hl : lv_has ls 5 [(0, .ref (Z0.ad 11 i0)), (1, .int p1)]) (hQ : ∀ (pc' : Nat) (ls' : Array Slot) (r : Int32) (Z1 : cZ) (g1 : mSt) (H1 : Heap) (locs1 : List Loc) (c1 l1 : Nat), decode cX11_tick pc' = .ok (.ireturn, 1) → cXA p c cX11_tick s args (wk (Cond.code yX11_tick cX11_tick 5 (some .int))) m G Z1 A RX11 H0 → cL G Z1 A H0 (X + 848000) g1 H1 locs1 → cZl Z0 Z1 c1 l1 → (c1 ≤ a ∧ l1 ≤ b) → (wfP (Φ r Z1 g1) ∧ mFi (im_ktick i0 p1) g g1 ∧ (mFr [0, 1, 2, 32, 33, 34, 35, 36, 37, 38, 39, 40, 41, 42, 43, 44, 45, 46, 47, 48, 49, 66, 67, 101, 106, 107, 108, 109, 111, 135, 136, 164, 165, 166, 167, 168, 169, 170, 171, 172, 173, 174, 175, 176, 177, 178, 179, 180, 197, 198, 225, 226, 227, 228, 229, 230, 231, 232, 233, 234, 235, 288, 289, 290, 291, 292, 293, 294, 295, 296, 323, 362, 363, 384, 385, 386, 421, 422, 512, 544, 576, 608, 640, 672, 704, 736, 768, 800, 832, 864, 928, 960, 992, 1024, 1056, 1088, 1248, 1280, 1312, 1344, 1536, 1728, 1729] g g1 ∧ rg (-2147483648) (2147483647) r ∧ cJ Z1 g1 ∧ True)) → W p l e (rm_ktick a b) s m args below meth c H1 locs1 c1 l1 Q (F0 m pc' ls' [.int r])) : W p l e (rm_ktick a b) s m args below meth c H locs 0 0 Q (F0 m 0 ls []) := by
  obtain ⟨Z, eZ⟩ : ∃ Z : cZ, Z = Z0 := ⟨_, rfl⟩
  replace hW := wfP_i (wfP_a hW Z) eZ
  have hzl : cZl Z0 Z 0 0 := by rw [eZ]; exact cZl.rf
  rw [← eZ] at xa L hJ hl
  have hcs : 0 ≤ a ∧ 0 ≤ b := ⟨Nat.zero_le _, Nat.zero_le _⟩
  have x := xa.1
  have hx := x.1
  have hb := x.2.1
  have hz := x.2.2.2.2.2.2.2.1
  have hzn := hz.1
  have hZn0 := hzl.1
  have ha_0 := hzl.2.1 11 i0 hal0
  have up1 : (-2147483648 : Int) ≤ p1.toInt ∧ p1.toInt ≤ 2147483647 := (rg_any p1)
  refine lv_iload_n hx hb dX11_tick_0 rfl (lv_at hl 1 rfl) ?_
  refine lv_iconst (v := 1) hx hb dX11_tick_1 (by decide) ?_
  refine lv_icmp_lt (tgt := 11) hx hb dX11_tick_2 (by decide) (fun c2_1 => ?_) (fun c2_1 => ?_)
  · skip
    replace hW := wfP_i (wfP_l hW) (i_lt c2_1 rfl (rg_i kc_1))
    have ic2_1 := Int32.lt_iff_toInt_lt.mp c2_1
    have q2 : rg (-2147483648) (0) p1 := (rg_lt c2_1 (rg_any p1) kc_1).1
    have uq2 : (-2147483648 : Int) ≤ p1.toInt ∧ p1.toInt ≤ 0 := q2
    refine lv_iconst (v := (-1)) hx hb dX11_tick_11 (by decide) ?_
    exact hQ _ _ (-1 : Int32) Z _ _ _ _ _ dX11_tick_12 xa (cL.mono L (by omega)) hzl hcs ⟨hW, mFi.rf, mFr.rf, rg_w kc_m1 rfl, hJ, trivial⟩
  · skip
    replace hW := wfP_i (wfP_r hW) (i_le (rg_nlt c2_1) (rg_i kc_1) rfl)
    have ic2_1 := Int32.le_iff_toInt_le.mp (rg_nlt c2_1)
    have q3 : rg (1) (2147483647) p1 := (rg_le (rg_nlt c2_1) kc_1 (rg_any p1)).2
    have uq3 : (1 : Int) ≤ p1.toInt ∧ p1.toInt ≤ 2147483647 := q3
    refine lv_iload_n hx hb dX11_tick_5 rfl (lv_at hl 1 rfl) ?_
    refine lv_bipush (v := 50) hx hb dX11_tick_6 (by decide) ?_
    refine lv_icmp_le (tgt := 13) hx hb dX11_tick_8 (by decide) (fun c8_4 => ?_) (fun c8_4 => ?_)
    · skip
      replace hW := wfP_i (wfP_l hW) (i_le c8_4 rfl (rg_i kc_50))
      have ic8_4 := Int32.le_iff_toInt_le.mp c8_4
      have q5 : rg (1) (50) p1 := (rg_le c8_4 q3 kc_50).1
      have uq5 : (1 : Int) ≤ p1.toInt ∧ p1.toInt ≤ 50 := q5
      refine lv_iconst (v := 0) hx hb dX11_tick_13 (by decide) ?_
      refine lv_istore_n (lv' := [(2, .int (0 : Int32)), (0, .ref (Z.ad 11 i0)), (1, .int p1)]) hx hb dX11_tick_14 rfl hl (by decide) rfl (fun ls hl => ?_)
      obtain ⟨P7, hP7, hW⟩ := wfP_ex hW
      have j15_7 : ∀ (n : Nat) (a15_2_6 : Int32) (Z : cZ) (g7 : mSt) (H7 : Heap) (k7 : List Loc) (ls : Array Slot) (c7 l7 : Nat), mFr [0, 1, 2, 32, 33, 34, 35, 36, 37, 38, 39, 40, 41, 42, 43, 44, 45, 46, 47, 48, 49, 66, 67, 101, 106, 107, 108, 109, 111, 135, 136, 164, 165, 166, 167, 168, 169, 170, 171, 172, 173, 174, 175, 176, 177, 178, 179, 180, 197, 198, 225, 226, 227, 228, 229, 230, 231, 232, 233, 234, 235, 288, 289, 290, 291, 292, 293, 294, 295, 296, 323, 362, 363, 384, 385, 386, 421, 422, 512, 544, 576, 608, 640, 672, 704, 736, 768, 800, 832, 864, 928, 960, 992, 1024, 1056, 1088, 1248, 1280, 1312, 1344, 1536, 1728, 1729] g g7 → mFi (im_ktick i0 p1) g g7 → cXA p c cX11_tick s args (wk (Cond.code yX11_tick cX11_tick 5 (some .int))) m G Z A RX11 H0 → cL G Z A H0 (X + (16960 * a15_2_6.toInt)) g7 H7 k7 → cZl Z0 Z c7 l7 → (c7 ≤ a ∧ l7 ≤ b) → cJ Z g7 → rg (0) (50) a15_2_6 → wfP (P7 a15_2_6 Z g7) → lv_has ls 5 [(0, .ref (Z.ad 11 i0)), (1, .int p1), (2, .int a15_2_6)] → ((50 : Int) - a15_2_6.toInt).toNat = n → W p l e (rm_ktick a b) s m args below meth c H7 k7 c7 l7 Q (F0 m 15 ls []) := by
        intro n
        induction n using Nat.strongRecOn with
        | _ n ih7 =>
          intro a15_2_6 Z g7 H7 k7 ls c7 l7 hF7 hI7 xa L7 hzl hcs hJ7 ra15_2_6 hW hl hn7
          subst hn7
          have x := xa.1
          have hz := x.2.2.2.2.2.2.2.1
          have hzn := hz.1
          have hZn7 := hzl.1
          replace hW := wfP_i (wfP_i (wfP_i (wfP_i (wfP_i (wfP_i (wfP_a (wfP_a (wfP_a hP7 a15_2_6) Z) g7) hF7) hI7) hJ7) hzl.1) ra15_2_6) hW
          have ua15_2_6 : (0 : Int) ≤ a15_2_6.toInt ∧ a15_2_6.toInt ≤ 50 := ra15_2_6
          have al8 := hzl.2.1 11 i0 hal0
          refine lv_iload_n hx hb dX11_tick_15 rfl (lv_at hl 2 rfl) ?_
          refine lv_iload_n hx hb dX11_tick_16 rfl (lv_at hl 1 rfl) ?_
          refine lv_icmp_ge (tgt := 202) hx hb dX11_tick_17 (by decide) (fun c17_9 => ?_) (fun c17_9 => ?_)
          · skip
            replace hW := wfP_i (wfP_l hW) (i_le c17_9 rfl rfl)
            have ic17_9 := Int32.le_iff_toInt_le.mp c17_9
            have q10 : rg (1) (50) a15_2_6 := (rg_le c17_9 q5 ra15_2_6).2
            have uq10 : (1 : Int) ≤ a15_2_6.toInt ∧ a15_2_6.toInt ≤ 50 := q10
            refine lv_aload_n hx hb dX11_tick_202 rfl (lv_at hl 0 rfl) ?_
            refine c_geti x L7 11 i0 10 362 al8 rfl rfl (wk_in kf_X11_82) dX11_tick_203 (fun v11 ev11 wv11 => ?_)
            have rv11 : rg (-2147483648) (2147483647) v11 := rg_any v11
            replace hW := (wfP_i (wfP_i (wfP_a hW v11) ev11) rv11)
            have uv11 : (-2147483648 : Int) ≤ v11.toInt ∧ v11.toInt ≤ 2147483647 := rv11
            exact hQ _ _ v11 Z _ _ _ _ _ dX11_tick_206 xa (cL.mono L7 (by omega)) hzl hcs ⟨hW, (mFi.tr mFi.rf hI7), (mFr.tr mFr.rf hF7 rfl), rg_w rv11 rfl, hJ7, trivial⟩
          · skip
            replace hW := wfP_i (wfP_r hW) (i_lt (rg_nle c17_9) rfl rfl)
            have ic17_9 := Int32.lt_iff_toInt_lt.mp (rg_nle c17_9)
            have q12 : rg (0) (49) a15_2_6 := (rg_lt (rg_nle c17_9) ra15_2_6 q5).1
            have uq12 : (0 : Int) ≤ a15_2_6.toInt ∧ a15_2_6.toInt ≤ 49 := q12
            refine lv_aload_n hx hb dX11_tick_20 rfl (lv_at hl 0 rfl) ?_
            refine lv_dup hx hb dX11_tick_21 rfl ?_
            refine c_geti x L7 11 i0 10 362 al8 rfl rfl (wk_in kf_X11_82) dX11_tick_22 (fun v13 ev13 wv13 => ?_)
            have rv13 : rg (-2147483648) (2147483647) v13 := rg_any v13
            replace hW := (wfP_i (wfP_i (wfP_a hW v13) ev13) rv13)
            have uv13 : (-2147483648 : Int) ≤ v13.toInt ∧ v13.toInt ≤ 2147483647 := rv13
            refine lv_iconst (v := 1) hx hb dX11_tick_25 (by decide) ?_
            refine lv_iadd hx hb dX11_tick_26 ?_
            refine lv_topi (fun v14 ev14 => ?_)
            have rv14 : rg (-2147483648) (2147483647) v14 := rg_any v14
            replace hW := (wfP_i (wfP_i (wfP_a hW v14) ev14) rv14)
            have uv14 : (-2147483648 : Int) ≤ v14.toInt ∧ v14.toInt ≤ 2147483647 := rv14
            refine c_puti x L7 11 i0 10 362 al8 rfl rfl ⟨rfl, by decide +kernel⟩ (wk_in kf_X11_82) dX11_tick_27 (rg_any v14) (fun g15 H15 k15 eg15 L15 => ?_)
            replace hW := (wfP_i (wfP_a hW g15) eg15)
            refine lv_iconst (v := 0) hx hb dX11_tick_30 (by decide) ?_
            refine lv_istore_n (lv' := [(3, .int (0 : Int32)), (0, .ref (Z.ad 11 i0)), (1, .int p1), (2, .int a15_2_6)]) hx hb dX11_tick_31 rfl hl (by decide) rfl (fun ls hl => ?_)
            obtain ⟨P17, hP17, hW⟩ := wfP_ex hW
            have j32_17 : ∀ (n : Nat) (a32_3_16 : Int32) (Z : cZ) (g17 : mSt) (H17 : Heap) (k17 : List Loc) (ls : Array Slot) (c17 l17 : Nat), mFr [36, 40, 41, 42, 44, 45, 46, 48, 67, 108, 111, 164, 165, 166, 167, 168, 169, 170, 171, 172, 173, 176, 177, 178, 179, 197, 198, 421, 422, 544, 576, 768, 832, 864, 928, 1248, 1280, 1312, 1344] g15 g17 → mFi (im_ktick i0 p1) g15 g17 → cXA p c cX11_tick s args (wk (Cond.code yX11_tick cX11_tick 5 (some .int))) m G Z A RX11 H0 → cL G Z A H0 (X + (16960 * a15_2_6.toInt)) g17 H17 k17 → cZl Z0 Z c17 l17 → (c17 ≤ a ∧ l17 ≤ b) → cJ Z g17 → rg (0) (8) a32_3_16 → wfP (P17 a32_3_16 Z g17) → lv_has ls 5 [(0, .ref (Z.ad 11 i0)), (1, .int p1), (2, .int a15_2_6), (3, .int a32_3_16)] → ((8 : Int) - a32_3_16.toInt).toNat = n → W p l e (rm_ktick a b) s m args below meth c H17 k17 c17 l17 Q (F0 m 32 ls []) := by
              intro n
              induction n using Nat.strongRecOn with
              | _ n ih17 =>
                intro a32_3_16 Z g17 H17 k17 ls c17 l17 hF17 hI17 xa L17 hzl hcs hJ17 ra32_3_16 hW hl hn17
                subst hn17
                have x := xa.1
                have hz := x.2.2.2.2.2.2.2.1
                have hzn := hz.1
                have hZn17 := hzl.1
                replace hW := wfP_i (wfP_i (wfP_i (wfP_i (wfP_i (wfP_i (wfP_a (wfP_a (wfP_a hP17 a32_3_16) Z) g17) hF17) hI17) hJ17) hzl.1) ra32_3_16) hW
                have ua32_3_16 : (0 : Int) ≤ a32_3_16.toInt ∧ a32_3_16.toInt ≤ 8 := ra32_3_16
                have al18 := hzl.2.1 11 i0 hal0
                refine lv_iload_n hx hb dX11_tick_32 rfl (lv_at hl 3 rfl) ?_
                refine lv_aload_n hx hb dX11_tick_33 rfl (lv_at hl 0 rfl) ?_
                have al19 : Z.al 52 0 := hz.2 52 0 (show 0 < 1 from (by omega))
                refine c_getr (a := Z.ad 52 0) x L17 11 i0 4 al18 rfl rfl (wk_in kf_X11_71) dX11_tick_34 ?_
                refine c_lenr x L17 52 0 al19 rfl (show (2 * Z.n) ≤ 2147483647 from (by omega)) dX11_tick_37 (fun v20 ev20 => ?_)
                have tv20 : v20.toInt = (((2 * Z.n) : Nat) : Int) := ev20
                have rv20 : rg (4) (8) v20 := ⟨by omega, by omega⟩
                replace hW := (wfP_i (wfP_i (wfP_a hW v20) tv20) rv20)
                refine lv_icmp_ge (tgt := 100) hx hb dX11_tick_38 (by decide) (fun c38_21 => ?_) (fun c38_21 => ?_)
                · skip
                  replace hW := wfP_i (wfP_l hW) (i_le c38_21 rfl rfl)
                  have ic38_21 := Int32.le_iff_toInt_le.mp c38_21
                  have q22 : rg (4) (8) a32_3_16 := (rg_le c38_21 rv20 ra32_3_16).2
                  have uq22 : (4 : Int) ≤ a32_3_16.toInt ∧ a32_3_16.toInt ≤ 8 := q22
                  refine lv_iconst (v := 0) hx hb dX11_tick_100 (by decide) ?_
                  refine lv_istore_n (lv' := [(3, .int (0 : Int32)), (0, .ref (Z.ad 11 i0)), (1, .int p1), (2, .int a15_2_6)]) hx hb dX11_tick_101 rfl hl (by decide) rfl (fun ls hl => ?_)
                  obtain ⟨P24, hP24, hW⟩ := wfP_ex hW
                  have j102_24 : ∀ (n : Nat) (a102_3_23 : Int32) (Z : cZ) (g24 : mSt) (H24 : Heap) (k24 : List Loc) (ls : Array Slot) (c24 l24 : Nat), mFr [47, 48, 49, 67, 108, 544, 576] g17 g24 → mFi (im_ktick i0 p1) g17 g24 → cXA p c cX11_tick s args (wk (Cond.code yX11_tick cX11_tick 5 (some .int))) m G Z A RX11 H0 → cL G Z A H0 (X + (16960 * a15_2_6.toInt)) g24 H24 k24 → cZl Z0 Z c24 l24 → (c24 ≤ a ∧ l24 ≤ b) → cJ Z g24 → rg (0) (4) a102_3_23 → wfP (P24 a102_3_23 Z g24) → lv_has ls 5 [(0, .ref (Z.ad 11 i0)), (1, .int p1), (2, .int a15_2_6), (3, .int a102_3_23)] → ((4 : Int) - a102_3_23.toInt).toNat = n → W p l e (rm_ktick a b) s m args below meth c H24 k24 c24 l24 Q (F0 m 102 ls []) := by
                    intro n
                    induction n using Nat.strongRecOn with
                    | _ n ih24 =>
                      intro a102_3_23 Z g24 H24 k24 ls c24 l24 hF24 hI24 xa L24 hzl hcs hJ24 ra102_3_23 hW hl hn24
                      subst hn24
                      have x := xa.1
                      have hz := x.2.2.2.2.2.2.2.1
                      have hzn := hz.1
                      have hZn24 := hzl.1
                      replace hW := wfP_i (wfP_i (wfP_i (wfP_i (wfP_i (wfP_i (wfP_a (wfP_a (wfP_a hP24 a102_3_23) Z) g24) hF24) hI24) hJ24) hzl.1) ra102_3_23) hW
                      have ua102_3_23 : (0 : Int) ≤ a102_3_23.toInt ∧ a102_3_23.toInt ≤ 4 := ra102_3_23
                      have al25 := hzl.2.1 11 i0 hal0
                      refine lv_iload_n hx hb dX11_tick_102 rfl (lv_at hl 3 rfl) ?_
                      refine lv_aload_n hx hb dX11_tick_103 rfl (lv_at hl 0 rfl) ?_
                      refine c_getc x L24 11 i0 0 al25 rfl (wk_in kf_X11_55) dX11_tick_104 (fun v26 ev26 => ?_)
                      have tv26 : v26.toInt = (Z.n : Int) := cCv_11 ev26 hzn
                      have rv26 : rg (2) (4) v26 := ⟨by omega, by omega⟩
                      replace hW := (wfP_i (wfP_i (wfP_a hW v26) tv26) rv26)
                      refine lv_icmp_ge (tgt := 133) hx hb dX11_tick_107 (by decide) (fun c107_27 => ?_) (fun c107_27 => ?_)
                      · skip
                        replace hW := wfP_i (wfP_l hW) (i_le c107_27 rfl rfl)
                        have ic107_27 := Int32.le_iff_toInt_le.mp c107_27
                        have q28 : rg (2) (4) a102_3_23 := (rg_le c107_27 rv26 ra102_3_23).2
                        have uq28 : (2 : Int) ≤ a102_3_23.toInt ∧ a102_3_23.toInt ≤ 4 := q28
                        refine lv_iconst (v := 0) hx hb dX11_tick_133 (by decide) ?_
                        refine lv_istore_n (lv' := [(3, .int (0 : Int32)), (0, .ref (Z.ad 11 i0)), (1, .int p1), (2, .int a15_2_6)]) hx hb dX11_tick_134 rfl hl (by decide) rfl (fun ls hl => ?_)
                        obtain ⟨P30, hP30, hW⟩ := wfP_ex hW
                        have j135_30 : ∀ (n : Nat) (a135_3_29 : Int32) (Z : cZ) (g30 : mSt) (H30 : Heap) (k30 : List Loc) (ls : Array Slot) (c30 l30 : Nat), mFr [66, 67, 101, 106, 107, 363, 608, 640, 672, 704, 736] g24 g30 → mFi (im_ktick i0 p1) g24 g30 → cXA p c cX11_tick s args (wk (Cond.code yX11_tick cX11_tick 5 (some .int))) m G Z A RX11 H0 → cL G Z A H0 (X + (16960 * a15_2_6.toInt)) g30 H30 k30 → cZl Z0 Z c30 l30 → (c30 ≤ a ∧ l30 ≤ b) → cJ Z g30 → rg (0) (8) a135_3_29 → wfP (P30 a135_3_29 Z g30) → lv_has ls 5 [(0, .ref (Z.ad 11 i0)), (1, .int p1), (2, .int a15_2_6), (3, .int a135_3_29)] → ((8 : Int) - a135_3_29.toInt).toNat = n → W p l e (rm_ktick a b) s m args below meth c H30 k30 c30 l30 Q (F0 m 135 ls []) := by
                          intro n
                          induction n using Nat.strongRecOn with
                          | _ n ih30 =>
                            intro a135_3_29 Z g30 H30 k30 ls c30 l30 hF30 hI30 xa L30 hzl hcs hJ30 ra135_3_29 hW hl hn30
                            subst hn30
                            have x := xa.1
                            have hz := x.2.2.2.2.2.2.2.1
                            have hzn := hz.1
                            have hZn30 := hzl.1
                            replace hW := wfP_i (wfP_i (wfP_i (wfP_i (wfP_i (wfP_i (wfP_a (wfP_a (wfP_a hP30 a135_3_29) Z) g30) hF30) hI30) hJ30) hzl.1) ra135_3_29) hW
                            have ua135_3_29 : (0 : Int) ≤ a135_3_29.toInt ∧ a135_3_29.toInt ≤ 8 := ra135_3_29
                            have al31 := hzl.2.1 11 i0 hal0
                            refine lv_iload_n hx hb dX11_tick_135 rfl (lv_at hl 3 rfl) ?_
                            refine lv_aload_n hx hb dX11_tick_136 rfl (lv_at hl 0 rfl) ?_
                            have al32 : Z.al 50 0 := hz.2 50 0 (show 0 < 1 from (by omega))
                            refine c_getr (a := Z.ad 50 0) x L30 11 i0 1 al31 rfl rfl (wk_in kf_X11_59) dX11_tick_137 ?_
                            refine c_lenr x L30 50 0 al32 rfl (show (2 * Z.n) ≤ 2147483647 from (by omega)) dX11_tick_140 (fun v33 ev33 => ?_)
                            have tv33 : v33.toInt = (((2 * Z.n) : Nat) : Int) := ev33
                            have rv33 : rg (4) (8) v33 := ⟨by omega, by omega⟩
                            replace hW := (wfP_i (wfP_i (wfP_a hW v33) tv33) rv33)
                            refine lv_icmp_ge (tgt := 168) hx hb dX11_tick_141 (by decide) (fun c141_34 => ?_) (fun c141_34 => ?_)
                            · skip
                              replace hW := wfP_i (wfP_l hW) (i_le c141_34 rfl rfl)
                              have ic141_34 := Int32.le_iff_toInt_le.mp c141_34
                              have q35 : rg (4) (8) a135_3_29 := (rg_le c141_34 rv33 ra135_3_29).2
                              have uq35 : (4 : Int) ≤ a135_3_29.toInt ∧ a135_3_29.toInt ≤ 8 := q35
                              refine lv_iconst (v := 0) hx hb dX11_tick_168 (by decide) ?_
                              refine lv_istore_n (lv' := [(3, .int (0 : Int32)), (0, .ref (Z.ad 11 i0)), (1, .int p1), (2, .int a15_2_6)]) hx hb dX11_tick_169 rfl hl (by decide) rfl (fun ls hl => ?_)
                              obtain ⟨P37, hP37, hW⟩ := wfP_ex hW
                              have j170_37 : ∀ (n : Nat) (a170_3_36 : Int32) (Z : cZ) (g37 : mSt) (H37 : Heap) (k37 : List Loc) (ls : Array Slot) (c37 l37 : Nat), mFr [0, 1, 2, 32, 33, 34, 35, 36, 37, 38, 39, 40, 41, 42, 43, 44, 45, 46, 47, 48, 49, 67, 108, 109, 111, 135, 136, 164, 165, 166, 167, 168, 169, 170, 171, 172, 173, 174, 175, 176, 177, 178, 179, 180, 197, 198, 225, 226, 227, 228, 229, 230, 231, 232, 233, 234, 235, 288, 289, 290, 291, 292, 293, 294, 295, 296, 323, 384, 385, 386, 421, 422, 512, 544, 576, 768, 800, 832, 864, 928, 960, 992, 1024, 1056, 1088, 1248, 1280, 1344, 1536, 1728, 1729] g30 g37 → mFi (im_ktick i0 p1) g30 g37 → cXA p c cX11_tick s args (wk (Cond.code yX11_tick cX11_tick 5 (some .int))) m G Z A RX11 H0 → cL G Z A H0 (X + (16960 * a15_2_6.toInt + 2120 * a170_3_36.toInt)) g37 H37 k37 → cZl Z0 Z c37 l37 → (c37 ≤ a ∧ l37 ≤ b) → cJ Z g37 → rg (0) (8) a170_3_36 → wfP (P37 a170_3_36 Z g37) → lv_has ls 5 [(0, .ref (Z.ad 11 i0)), (1, .int p1), (2, .int a15_2_6), (3, .int a170_3_36)] → ((8 : Int) - a170_3_36.toInt).toNat = n → W p l e (rm_ktick a b) s m args below meth c H37 k37 c37 l37 Q (F0 m 170 ls []) := by
                                intro n
                                induction n using Nat.strongRecOn with
                                | _ n ih37 =>
                                  intro a170_3_36 Z g37 H37 k37 ls c37 l37 hF37 hI37 xa L37 hzl hcs hJ37 ra170_3_36 hW hl hn37
                                  subst hn37
                                  have x := xa.1
                                  have hz := x.2.2.2.2.2.2.2.1
                                  have hzn := hz.1
                                  have hZn37 := hzl.1
                                  replace hW := wfP_i (wfP_i (wfP_i (wfP_i (wfP_i (wfP_i (wfP_a (wfP_a (wfP_a hP37 a170_3_36) Z) g37) hF37) hI37) hJ37) hzl.1) ra170_3_36) hW
                                  have ua170_3_36 : (0 : Int) ≤ a170_3_36.toInt ∧ a170_3_36.toInt ≤ 8 := ra170_3_36
                                  have al38 := hzl.2.1 11 i0 hal0
                                  refine lv_iload_n hx hb dX11_tick_170 rfl (lv_at hl 3 rfl) ?_
                                  refine lv_aload_n hx hb dX11_tick_171 rfl (lv_at hl 0 rfl) ?_
                                  have al39 : Z.al 50 0 := hz.2 50 0 (show 0 < 1 from (by omega))
                                  refine c_getr (a := Z.ad 50 0) x L37 11 i0 1 al38 rfl rfl (wk_in kf_X11_59) dX11_tick_172 ?_
                                  refine c_lenr x L37 50 0 al39 rfl (show (2 * Z.n) ≤ 2147483647 from (by omega)) dX11_tick_175 (fun v40 ev40 => ?_)
                                  have tv40 : v40.toInt = (((2 * Z.n) : Nat) : Int) := ev40
                                  have rv40 : rg (4) (8) v40 := ⟨by omega, by omega⟩
                                  replace hW := (wfP_i (wfP_i (wfP_a hW v40) tv40) rv40)
                                  refine lv_icmp_ge (tgt := 196) hx hb dX11_tick_176 (by decide) (fun c176_41 => ?_) (fun c176_41 => ?_)
                                  · skip
                                    replace hW := wfP_i (wfP_l hW) (i_le c176_41 rfl rfl)
                                    have ic176_41 := Int32.le_iff_toInt_le.mp c176_41
                                    have q42 : rg (4) (8) a170_3_36 := (rg_le c176_41 rv40 ra170_3_36).2
                                    have uq42 : (4 : Int) ≤ a170_3_36.toInt ∧ a170_3_36.toInt ≤ 8 := q42
                                    obtain ⟨v43, ev43, fv43⟩ := inc_ex a15_2_6 (1) (1 : Int32) (by decide)
                                    have rv43 : rg (1) (50) v43 := (rg_add ev43 q12 kc_1 rfl).1
                                    have tv43 := (rg_add ev43 q12 kc_1 rfl).2
                                    have yv43 : (1 : Int32).toInt = 1 := by decide
                                    replace hW := (wfP_i (wfP_i (wfP_i (wfP_a hW v43) ev43) rv43) (w_iadd tv43 rfl (rg_i kc_1)))
                                    refine lv_iinc (v := v43) (lv' := [(2, .int v43), (0, .ref (Z.ad 11 i0)), (1, .int p1), (3, .int a170_3_36)]) hx hb dX11_tick_196 hl (k := 2) rfl fv43 (by decide) rfl (fun ls hl => ?_)
                                    refine lv_goto (tgt := 15) hx hb dX11_tick_199 (by decide) ?_
                                    exact ih7 _ (ms_up tv43 kc_1 q12 rfl rfl) v43 Z g37 _ _ ls _ _ (mFr.tr (mFr.tr (mFr.tr (mFr.tr (mFr.upE hF7 eg15 rfl) hF17 rfl) hF24 rfl) hF30 rfl) hF37 rfl) (mFi.tr (mFi.tr (mFi.tr (mFi.tr (mFi.up hI7 eg15 (mIn_at 71 rfl (Or.inr (Nat.div_one _)))) hI17) hI24) hI30) hI37) xa (cL.mono L37 (by omega)) hzl hcs hJ37 (rg_w rv43 rfl) hW (lv_sub hl [1, 2, 0] rfl) rfl
                                  · skip
                                    replace hW := wfP_i (wfP_r hW) (i_lt (rg_nle c176_41) rfl rfl)
                                    have ic176_41 := Int32.lt_iff_toInt_lt.mp (rg_nle c176_41)
                                    have q44 : rg (0) (7) a170_3_36 := (rg_lt (rg_nle c176_41) ra170_3_36 rv40).1
                                    have uq44 : (0 : Int) ≤ a170_3_36.toInt ∧ a170_3_36.toInt ≤ 7 := q44
                                    refine lv_aload_n hx hb dX11_tick_179 rfl (lv_at hl 0 rfl) ?_
                                    refine lv_iload_n hx hb dX11_tick_180 rfl (lv_at hl 3 rfl) ?_
                                    refine lv_aload_n hx hb dX11_tick_181 rfl (lv_at hl 0 rfl) ?_
                                    refine c_getr (a := Z.ad 50 0) x L37 11 i0 1 al38 rfl rfl (wk_in kf_X11_59) dX11_tick_182 ?_
                                    refine lv_iload_n hx hb dX11_tick_185 rfl (lv_at hl 3 rfl) ?_
                                    refine c_ldr (a := Z.ad 3 a170_3_36.toInt.toNat) x L37 50 0 al39 rfl (by omega) (show a170_3_36.toInt < (((2 * Z.n) : Nat) : Int) from (by omega)) rfl dX11_tick_186 ?_
                                    have al45 : Z.al 3 a170_3_36.toInt.toNat := hz.2 3 a170_3_36.toInt.toNat (show a170_3_36.toInt.toNat < 2 * Z.n from (by omega))
                                    have hz046 := hzl.2.2.2.1
                                    have hz146 := hzl.2.2.2.2
                                    refine k_callv xa L37 (k_runV (As := [.int a170_3_36, .ref (Z.ad 3 a170_3_36.toInt.toNat)]) (rest := []) ⟨hx, hb, hml, x.2.2.2.2.1, x.2.2.1⟩ (d_karrive l (X + (16960 * a15_2_6.toInt + 2120 * a170_3_36.toInt)) g37 i0 a170_3_36 a170_3_36.toInt.toNat _ (TC - Z.w 0) (TS - Z.w 1) TC TS ⟨by omega, by omega⟩ hJ37 (by omega) (by omega) al38 (rg_w q44 rfl) al45 (by omega) hW) (cwV 2 x.2.2.1 (wk_V kd_X11_arrive kl_X11_112 ki_X11_arrive ks_X11_X11_arrive kn_X11) rfl rfl rfl hd_karrive ⟨Nat.le_of_ble_eq_true rfl, Nat.le_of_ble_eq_true rfl⟩) ⟨cPreA.blind, c_recv x L37 al38 rfl, fun U hU hW => k_pre xa L37 U hU hW⟩ rfl rfl hl.1 rfl (lv_room (Nat.le_of_ble_eq_true rfl)) dX11_tick_187 ⟨show c37 + (TC - Z.w 0) ≤ a by omega, show l37 + (TS - Z.w 1) ≤ b by omega⟩) (fun  Z g46 H46 k46 kc46 kn46 hk46 hn46 hp46 hz46 xa L46 => ?_)
                                    obtain ⟨hW, hi46, hp46⟩ := hp46
                                    replace hW := wfP_i (wfP_a (wfP_i hW ⟨hi46, hp46⟩) Z) rfl
                                    have ea46_0 := hz46.2.2.1 11 i0 al38 (by omega)
                                    rw [← ea46_0] at hl
                                    have al46_0 := hz46.2.1 11 i0 al38
                                    have hZn46 := hz46.1
                                    have x := xa.1
                                    have hz := x.2.2.2.2.2.2.2.1
                                    have hzn := hz.1
                                    have hzl := cZl.tr hzl hz46
                                    have hcs : c37 + kc46 ≤ a ∧ l37 + kn46 ≤ b := by omega
                                    have L47 := cL.mono L46 (show _ ≤ (X + ((16960 * a15_2_6.toInt + 2120 * a170_3_36.toInt) + 2120)) by omega)
                                    obtain ⟨v48, ev48, fv48⟩ := inc_ex a170_3_36 (1) (1 : Int32) (by decide)
                                    have rv48 : rg (1) (8) v48 := (rg_add ev48 q44 kc_1 rfl).1
                                    have tv48 := (rg_add ev48 q44 kc_1 rfl).2
                                    have yv48 : (1 : Int32).toInt = 1 := by decide
                                    replace hW := (wfP_i (wfP_i (wfP_i (wfP_a hW v48) ev48) rv48) (w_iadd tv48 rfl (rg_i kc_1)))
                                    refine lv_iinc (v := v48) (lv' := [(3, .int v48), (0, .ref (Z.ad 11 i0)), (1, .int p1), (2, .int a15_2_6)]) hx hb dX11_tick_190 hl (k := 3) rfl fv48 (by decide) rfl (fun ls hl => ?_)
                                    refine lv_goto (tgt := 170) hx hb dX11_tick_193 (by decide) ?_
                                    exact ih37 _ (ms_up tv48 kc_1 q44 rfl rfl) v48 Z g46 _ _ ls _ _ (mFr.tr hF37 hp46.1 rfl) (mFi.sub hI37 hi46 (mSub_any 0 rfl (mSub_any 1 rfl (mSub_any 2 rfl (mSub_any 3 rfl (mSub_any 4 rfl (mSub_any 5 rfl (mSub_any 6 rfl (mSub_any 7 rfl (mSub_any 8 rfl (mSub_any 9 rfl (mSub_any 10 rfl (mSub_any 11 rfl (mSub_any 12 rfl (mSub_any 13 rfl (mSub_any 14 rfl (mSub_any 15 rfl (mSub_any 16 rfl (mSub_any 17 rfl (mSub_any 18 rfl (mSub_any 19 rfl (mSub_any 20 rfl (mSub_any 22 rfl (mSub_any 26 rfl (mSub_any 27 rfl (mSub_any 28 rfl (mSub_any 29 rfl (mSub_any 30 rfl (mSub_any 31 rfl (mSub_any 32 rfl (mSub_any 33 rfl (mSub_any 34 rfl (mSub_any 35 rfl (mSub_any 36 rfl (mSub_any 37 rfl (mSub_any 38 rfl (mSub_any 39 rfl (mSub_any 40 rfl (mSub_any 41 rfl (mSub_any 42 rfl (mSub_any 43 rfl (mSub_any 44 rfl (mSub_any 45 rfl (mSub_any 46 rfl (mSub_any 47 rfl (mSub_any 48 rfl (mSub_any 49 rfl (mSub_any 50 rfl (mSub_any 51 rfl (mSub_any 52 rfl (mSub_any 53 rfl (mSub_any 54 rfl (mSub_any 55 rfl (mSub_any 56 rfl (mSub_any 57 rfl (mSub_any 58 rfl (mSub_any 59 rfl (mSub_any 60 rfl (mSub_eq 61 rfl (mSub_eq 62 rfl (mSub_eq 63 rfl (mSub_eq 64 rfl (mSub_eq 65 rfl (mSub_eq 66 rfl (mSub_eq 67 rfl (mSub_eq 68 rfl (mSub_eq 69 rfl (mSub_any 70 rfl (mSub_any 73 rfl (mSub_any 74 rfl (mSub_any 75 rfl (mSub_any 76 rfl (mSub_any 77 rfl (mSub_any 78 rfl (mSub_any 79 rfl (mSub_any 80 rfl (mSub_any 86 rfl (mSub_any 87 rfl (mSub_any 88 rfl (mSub_any 89 rfl (mSub_any 90 rfl (mSub_any 91 rfl (mSub_any 92 rfl (mSub_any 93 rfl (mSub_any 94 rfl (mSub_eq 95 rfl (mSub_any 96 rfl (mSub_any 97 rfl (mSub_any 99 rfl (mSub_any 100 rfl (mSub_any 101 rfl (mSub_any 102 rfl mSub_nil)))))))))))))))))))))))))))))))))))))))))))))))))))))))))))))))))))))))))))))))))))))))))))) xa (cL.mono L47 (by omega)) hzl hcs hp46.2.1 (rg_w rv48 rfl) hW (lv_sub hl [1, 2, 3, 0] rfl) rfl
                              have y49 : (0 : Int32).toInt = 0 := by decide
                              exact j170_37 _ (0 : Int32) Z g30 _ _ ls _ _ mFr.rf mFi.rf xa (cL.mono L30 (by omega)) hzl hcs hJ30 (rg_w kc_0 rfl) hW (lv_sub hl [1, 2, 3, 0] rfl) rfl
                            · skip
                              replace hW := wfP_i (wfP_r hW) (i_lt (rg_nle c141_34) rfl rfl)
                              have ic141_34 := Int32.lt_iff_toInt_lt.mp (rg_nle c141_34)
                              have q50 : rg (0) (7) a135_3_29 := (rg_lt (rg_nle c141_34) ra135_3_29 rv33).1
                              have uq50 : (0 : Int) ≤ a135_3_29.toInt ∧ a135_3_29.toInt ≤ 7 := q50
                              refine lv_aload_n hx hb dX11_tick_144 rfl (lv_at hl 0 rfl) ?_
                              refine lv_dup hx hb dX11_tick_145 rfl ?_
                              refine c_geti x L30 11 i0 11 363 al31 rfl rfl (wk_in kf_X11_105) dX11_tick_146 (fun v51 ev51 wv51 => ?_)
                              have rv51 : rg (-2147483648) (2147483647) v51 := rg_any v51
                              replace hW := (wfP_i (wfP_i (wfP_a hW v51) ev51) rv51)
                              have uv51 : (-2147483648 : Int) ≤ v51.toInt ∧ v51.toInt ≤ 2147483647 := rv51
                              refine lv_aload_n hx hb dX11_tick_149 rfl (lv_at hl 0 rfl) ?_
                              refine c_getr (a := Z.ad 50 0) x L30 11 i0 1 al31 rfl rfl (wk_in kf_X11_59) dX11_tick_150 ?_
                              refine lv_iload_n hx hb dX11_tick_153 rfl (lv_at hl 3 rfl) ?_
                              refine c_ldr (a := Z.ad 3 a135_3_29.toInt.toNat) x L30 50 0 al32 rfl (by omega) (show a135_3_29.toInt < (((2 * Z.n) : Nat) : Int) from (by omega)) rfl dX11_tick_154 ?_
                              have al52 : Z.al 3 a135_3_29.toInt.toNat := hz.2 3 a135_3_29.toInt.toNat (show a135_3_29.toInt.toNat < 2 * Z.n from (by omega))
                              refine c_ci (As := []) (rest := [.int v51, .ref (Z.ad 11 i0)]) x hml L30 3 a135_3_29.toInt.toNat al52 rfl (d_kputCells l (X + (16960 * a15_2_6.toInt)) g30 a135_3_29.toInt.toNat ⟨by omega, by omega⟩ hJ30 (show a135_3_29.toInt.toNat < 2 * Z.n from (by omega)) hW) (wk_V kd_X3_putCells kl_X11_108 ki_X3_putCells ks_X3_X3_putCells kn_X3) rfl ⟨rfl, rfl⟩ hd_kputCells ⟨Nat.le_of_ble_eq_true rfl, Nat.le_of_ble_eq_true rfl⟩ rfl hl.1 rfl (lv_room (Nat.le_of_ble_eq_true rfl)) dX11_tick_155 (fun v54 g53 H53 k53 hp53 L53 => ?_) hcs
                              obtain ⟨hW, hi53, hp53⟩ := hp53
                              replace hW := wfP_i hW ⟨hi53, hp53⟩
                              have rv54 : rg (-2147483648) (2147483647) v54 := hp53.2.1
                              have uv54 : (-2147483648 : Int) ≤ v54.toInt ∧ v54.toInt ≤ 2147483647 := rv54
                              refine lv_iadd hx hb dX11_tick_158 ?_
                              refine lv_topi (fun v55 ev55 => ?_)
                              have rv55 : rg (-2147483648) (2147483647) v55 := rg_any v55
                              replace hW := (wfP_i (wfP_i (wfP_a hW v55) ev55) rv55)
                              have uv55 : (-2147483648 : Int) ≤ v55.toInt ∧ v55.toInt ≤ 2147483647 := rv55
                              refine c_puti x L53 11 i0 11 363 al31 rfl rfl ⟨rfl, by decide +kernel⟩ (wk_in kf_X11_105) dX11_tick_159 (rg_any v55) (fun g56 H56 k56 eg56 L56 => ?_)
                              replace hW := (wfP_i (wfP_a hW g56) eg56)
                              obtain ⟨v57, ev57, fv57⟩ := inc_ex a135_3_29 (1) (1 : Int32) (by decide)
                              have rv57 : rg (1) (8) v57 := (rg_add ev57 q50 kc_1 rfl).1
                              have tv57 := (rg_add ev57 q50 kc_1 rfl).2
                              have yv57 : (1 : Int32).toInt = 1 := by decide
                              replace hW := (wfP_i (wfP_i (wfP_i (wfP_a hW v57) ev57) rv57) (w_iadd tv57 rfl (rg_i kc_1)))
                              refine lv_iinc (v := v57) (lv' := [(3, .int v57), (0, .ref (Z.ad 11 i0)), (1, .int p1), (2, .int a15_2_6)]) hx hb dX11_tick_162 hl (k := 3) rfl fv57 (by decide) rfl (fun ls hl => ?_)
                              refine lv_goto (tgt := 135) hx hb dX11_tick_165 (by decide) ?_
                              exact ih30 _ (ms_up tv57 kc_1 q50 rfl rfl) v57 Z g56 _ _ ls _ _ (mFr.upE (mFr.tr hF30 hp53.1 rfl) eg56 rfl) (mFi.up (mFi.sub hI30 hi53 (mSub_any 21 rfl (mSub_any 21 rfl (mSub_any 22 rfl (mSub_any 22 rfl (mSub_any 23 rfl (mSub_any 24 rfl (mSub_any 25 rfl (mSub_any 81 rfl (mSub_any 82 rfl (mSub_any 83 rfl (mSub_any 84 rfl (mSub_any 85 rfl mSub_nil))))))))))))) eg56 (mIn_at 72 rfl (Or.inr (Nat.div_one _)))) xa (cL.mono L56 (by omega)) hzl hcs (cJ_up hp53.2.2.1 eg56 rfl) (rg_w rv57 rfl) hW (lv_sub hl [1, 2, 3, 0] rfl) rfl
                        have y58 : (0 : Int32).toInt = 0 := by decide
                        exact j135_30 _ (0 : Int32) Z g24 _ _ ls _ _ mFr.rf mFi.rf xa (cL.mono L24 (by omega)) hzl hcs hJ24 (rg_w kc_0 rfl) hW (lv_sub hl [1, 2, 3, 0] rfl) rfl
                      · skip
                        replace hW := wfP_i (wfP_r hW) (i_lt (rg_nle c107_27) rfl rfl)
                        have ic107_27 := Int32.lt_iff_toInt_lt.mp (rg_nle c107_27)
                        have q59 : rg (0) (3) a102_3_23 := (rg_lt (rg_nle c107_27) ra102_3_23 rv26).1
                        have uq59 : (0 : Int) ≤ a102_3_23.toInt ∧ a102_3_23.toInt ≤ 3 := q59
                        refine lv_aload_n hx hb dX11_tick_110 rfl (lv_at hl 0 rfl) ?_
                        have al60 : Z.al 51 0 := hz.2 51 0 (show 0 < 1 from (by omega))
                        refine c_getr (a := Z.ad 51 0) x L24 11 i0 2 al25 rfl rfl (wk_in kf_X11_63) dX11_tick_111 ?_
                        refine lv_iload_n hx hb dX11_tick_114 rfl (lv_at hl 3 rfl) ?_
                        refine c_ldr (a := Z.ad 4 a102_3_23.toInt.toNat) x L24 51 0 al60 rfl (by omega) (show a102_3_23.toInt < ((Z.n : Nat) : Int) from (by omega)) rfl dX11_tick_115 ?_
                        have al61 : Z.al 4 a102_3_23.toInt.toNat := hz.2 4 a102_3_23.toInt.toNat (show a102_3_23.toInt.toNat < Z.n from (by omega))
                        refine lv_aload_n hx hb dX11_tick_116 rfl (lv_at hl 0 rfl) ?_
                        have al62 : Z.al 50 0 := hz.2 50 0 (show 0 < 1 from (by omega))
                        refine c_getr (a := Z.ad 50 0) x L24 11 i0 1 al25 rfl rfl (wk_in kf_X11_59) dX11_tick_117 ?_
                        refine lv_iconst (v := 2) hx hb dX11_tick_120 (by decide) ?_
                        refine lv_iload_n hx hb dX11_tick_121 rfl (lv_at hl 3 rfl) ?_
                        refine lv_imul hx hb dX11_tick_122 ?_
                        refine lv_topi (fun v63 ev63 => ?_)
                        have rv63 : rg (0) (6) v63 := (rg_mulL ev63 kc_2 q59 rfl).1
                        replace hW := (wfP_i (wfP_i (wfP_i (wfP_a hW v63) ev63) rv63) ((rg_mulL ev63 kc_2 q59 rfl).2))
                        have tv63 := (rg_mulL ev63 kc_2 q59 rfl).2
                        have y64 : (2 : Int32).toInt = 2 := by decide
                        have uv63 : (0 : Int) ≤ v63.toInt ∧ v63.toInt ≤ 6 := rv63
                        refine c_ldr (a := Z.ad 3 v63.toInt.toNat) x L24 50 0 al62 rfl (by omega) (show v63.toInt < (((2 * Z.n) : Nat) : Int) from (by omega)) rfl dX11_tick_123 ?_
                        have al65 : Z.al 3 v63.toInt.toNat := hz.2 3 v63.toInt.toNat (show v63.toInt.toNat < 2 * Z.n from (by omega))
                        refine c_cv (As := [.ref (Z.ad 3 v63.toInt.toNat)]) (rest := []) x hml L24 4 a102_3_23.toInt.toNat al61 rfl (d_kesendCells l (X + (16960 * a15_2_6.toInt)) g24 a102_3_23.toInt.toNat v63.toInt.toNat ⟨by omega, by omega⟩ hJ24 (show a102_3_23.toInt.toNat < Z.n from (by omega)) al65 (by omega) hW) (wk_V kd_X4_sendCells kl_X11_102 ki_X4_sendCells ks_X4_X4_sendCells kn_X4) rfl ⟨rfl, rfl⟩ hd_kesendCells ⟨Nat.le_of_ble_eq_true rfl, Nat.le_of_ble_eq_true rfl⟩ rfl hl.1 rfl (lv_room (Nat.le_of_ble_eq_true rfl)) dX11_tick_124 (fun  g66 H66 k66 hp66 L66 => ?_) hcs
                        obtain ⟨hW, hi66, hp66⟩ := hp66
                        replace hW := wfP_i hW ⟨hi66, hp66⟩
                        obtain ⟨v67, ev67, fv67⟩ := inc_ex a102_3_23 (1) (1 : Int32) (by decide)
                        have rv67 : rg (1) (4) v67 := (rg_add ev67 q59 kc_1 rfl).1
                        have tv67 := (rg_add ev67 q59 kc_1 rfl).2
                        have yv67 : (1 : Int32).toInt = 1 := by decide
                        replace hW := (wfP_i (wfP_i (wfP_i (wfP_a hW v67) ev67) rv67) (w_iadd tv67 rfl (rg_i kc_1)))
                        refine lv_iinc (v := v67) (lv' := [(3, .int v67), (0, .ref (Z.ad 11 i0)), (1, .int p1), (2, .int a15_2_6)]) hx hb dX11_tick_127 hl (k := 3) rfl fv67 (by decide) rfl (fun ls hl => ?_)
                        refine lv_goto (tgt := 102) hx hb dX11_tick_130 (by decide) ?_
                        exact ih24 _ (ms_up tv67 kc_1 q59 rfl rfl) v67 Z g66 _ _ ls _ _ (mFr.tr hF24 hp66.1 rfl) (mFi.sub hI24 hi66 (mSub_any 18 rfl (mSub_any 19 rfl (mSub_any 20 rfl (mSub_any 22 rfl (mSub_any 26 rfl (mSub_any 79 rfl (mSub_any 80 rfl mSub_nil)))))))) xa (cL.mono L66 (by omega)) hzl hcs hp66.2.1 (rg_w rv67 rfl) hW (lv_sub hl [1, 2, 3, 0] rfl) rfl
                  have y68 : (0 : Int32).toInt = 0 := by decide
                  exact j102_24 _ (0 : Int32) Z g17 _ _ ls _ _ mFr.rf mFi.rf xa (cL.mono L17 (by omega)) hzl hcs hJ17 (rg_w kc_0 rfl) hW (lv_sub hl [1, 2, 3, 0] rfl) rfl
                · skip
                  replace hW := wfP_i (wfP_r hW) (i_lt (rg_nle c38_21) rfl rfl)
                  have ic38_21 := Int32.lt_iff_toInt_lt.mp (rg_nle c38_21)
                  have q69 : rg (0) (7) a32_3_16 := (rg_lt (rg_nle c38_21) ra32_3_16 rv20).1
                  have uq69 : (0 : Int) ≤ a32_3_16.toInt ∧ a32_3_16.toInt ≤ 7 := q69
                  refine lv_aload_n hx hb dX11_tick_41 rfl (lv_at hl 0 rfl) ?_
                  refine c_getr (a := Z.ad 52 0) x L17 11 i0 4 al18 rfl rfl (wk_in kf_X11_71) dX11_tick_42 ?_
                  refine lv_iload_n hx hb dX11_tick_45 rfl (lv_at hl 3 rfl) ?_
                  rcases Nat.lt_or_ge a32_3_16.toInt.toNat Z.n with hc70 | hc70
                  · skip
                    replace hW := wfP_i (wfP_l hW) hc70
                    have al71 : Z.al 4 a32_3_16.toInt.toNat := hz.2 4 a32_3_16.toInt.toNat (show a32_3_16.toInt.toNat < Z.n from (by omega))
                    refine c_ldr (a := Z.ad 4 a32_3_16.toInt.toNat) x L17 52 0 al19 rfl (by omega) (show a32_3_16.toInt < (((2 * Z.n) : Nat) : Int) from (by omega)) (by show some (cSd Z a32_3_16.toInt.toNat) = _; unfold cSd; rw [if_pos hc70]) dX11_tick_46 ?_
                    refine lv_astore (lv' := [(4, .ref (Z.ad 4 a32_3_16.toInt.toNat)), (0, .ref (Z.ad 11 i0)), (1, .int p1), (2, .int a15_2_6), (3, .int a32_3_16)]) hx hb dX11_tick_47 hl (by decide) rfl (fun ls hl => ?_)
                    refine lv_aload hx hb dX11_tick_49 (lv_at hl 0 rfl) ?_
                    have al73 : Z.al 5 a32_3_16.toInt.toNat := hz.2 5 a32_3_16.toInt.toNat (show a32_3_16.toInt.toNat < 2 * Z.n from (by omega))
                    refine c_getr (a := Z.ad 5 a32_3_16.toInt.toNat) x L17 4 a32_3_16.toInt.toNat 1 al71 rfl rfl (wk_in kf_X11_85) dX11_tick_51 ?_
                    refine lv_aload_n hx hb dX11_tick_54 rfl (lv_at hl 1 rfl) ?_
                    refine c_geti x L17 11 i0 10 362 al18 rfl rfl (wk_in kf_X11_82) dX11_tick_55 (fun v74 ev74 wv74 => ?_)
                    have rv74 : rg (-2147483648) (2147483647) v74 := rg_any v74
                    replace hW := (wfP_i (wfP_i (wfP_a hW v74) ev74) rv74)
                    have uv74 : (-2147483648 : Int) ≤ v74.toInt ∧ v74.toInt ≤ 2147483647 := rv74
                    refine c_ci (As := [.int v74]) (rest := []) x hml L17 5 a32_3_16.toInt.toNat al73 rfl (d_ktimers l (X + (16960 * a15_2_6.toInt)) g17 a32_3_16.toInt.toNat v74 ⟨by omega, by omega⟩ (show a32_3_16.toInt.toNat < 2 * Z.n from (by omega)) hW) (wk_V kd_X5_timers kl_X11_89 ki_X5_timers ks_X5_X5_timers kn_X5) rfl ⟨rfl, rfl⟩ hd_ktimers ⟨Nat.le_of_ble_eq_true rfl, Nat.le_of_ble_eq_true rfl⟩ rfl hl.1 rfl (lv_room (Nat.le_of_ble_eq_true rfl)) dX11_tick_58 (fun v76 g75 H75 k75 hp75 L75 => ?_) hcs
                    obtain ⟨hW, hi75, hp75⟩ := hp75
                    replace hW := wfP_i hW ⟨hi75, hp75⟩
                    have rv76 : rg (0) (1) v76 := hp75.2.1
                    have uv76 : (0 : Int) ≤ v76.toInt ∧ v76.toInt ≤ 1 := rv76
                    refine lv_if_eq (tgt := 73) hx hb dX11_tick_61 (by decide) (fun c61_77 => ?_) (fun c61_77 => ?_)
                    · skip
                      replace hW := wfP_i (wfP_l hW) (i_eq c61_77 rfl (rg_i kc_0))
                      have ic61_77 := congrArg Int32.toInt c61_77
                      have y78 : (0 : Int32).toInt = 0 := by decide
                      have q79 : rg (0) (0) v76 := (rg_eq c61_77 rv76 kc_0).1
                      have uq79 : (0 : Int) ≤ v76.toInt ∧ v76.toInt ≤ 0 := q79
                      refine lv_aload hx hb dX11_tick_73 (lv_at hl 0 rfl) ?_
                      refine lv_aload_n hx hb dX11_tick_75 rfl (lv_at hl 1 rfl) ?_
                      refine c_geti x L75 11 i0 10 362 al18 rfl rfl (wk_in kf_X11_82) dX11_tick_76 (fun v80 ev80 wv80 => ?_)
                      refine m_top (((mm_fr ev74 hp75.1 rfl)).trans ev80.symm) ?_
                      refine c_cvU (n := 1) (owner := "CellSwitch$Side") (x0 := ⟨"CellSwitch$Side", "callTimers", "(I)V"⟩) (As := [.int v74]) (rest := []) x hml L75 4 a32_3_16.toInt.toNat al71 rfl (d_kcallTimers_4 l (X + (16960 * a15_2_6.toInt)) g75 a32_3_16.toInt.toNat v74 ⟨by omega, by omega⟩ (cJ_fr hJ17 hp75.1 rfl) (show a32_3_16.toInt.toNat < Z.n from (by omega)) hW) (wk_U kd_X8_callTimers kl_X11_96 km_CellSwitchSide_CellSwitchSide_callTimers ks_X4_CellSwitchSide_X8_callTimers ki_X8_callTimers kn_X8) rfl ⟨rfl, rfl⟩ rfl (by decide +kernel) ⟨Nat.le_of_ble_eq_true rfl, Nat.le_of_ble_eq_true rfl⟩ rfl hl.1 rfl (lv_room (Nat.le_of_ble_eq_true rfl)) dX11_tick_79 (fun  g81 H81 k81 hp81 L81 => ?_) hcs
                      obtain ⟨hW, hi81, hp81⟩ := hp81
                      replace hW := wfP_i hW ⟨hi81, hp81⟩
                      refine lv_aload hx hb dX11_tick_82 (lv_at hl 0 rfl) ?_
                      refine c_getr (a := Z.ad 5 a32_3_16.toInt.toNat) x L81 4 a32_3_16.toInt.toNat 1 al71 rfl rfl (wk_in kf_X11_85) dX11_tick_84 ?_
                      refine lv_aload_n hx hb dX11_tick_87 rfl (lv_at hl 1 rfl) ?_
                      refine c_geti x L81 11 i0 10 362 al18 rfl rfl (wk_in kf_X11_82) dX11_tick_88 (fun v82 ev82 wv82 => ?_)
                      refine m_top (((mm_fr (mm_fr ev74 hp75.1 rfl) hp81.1 rfl)).trans ev82.symm) ?_
                      refine c_cv (As := [.int v74]) (rest := []) x hml L81 5 a32_3_16.toInt.toNat al73 rfl (d_kturn l (X + (16960 * a15_2_6.toInt)) g81 a32_3_16.toInt.toNat v74 ⟨by omega, by omega⟩ (show a32_3_16.toInt.toNat < 2 * Z.n from (by omega)) hW) (wk_V kd_X5_turn kl_X11_99 ki_X5_turn ks_X5_X5_turn kn_X5) rfl ⟨rfl, rfl⟩ hd_kturn ⟨Nat.le_of_ble_eq_true rfl, Nat.le_of_ble_eq_true rfl⟩ rfl hl.1 rfl (lv_room (Nat.le_of_ble_eq_true rfl)) dX11_tick_91 (fun  g83 H83 k83 hp83 L83 => ?_) hcs
                      obtain ⟨hW, hi83, hp83⟩ := hp83
                      replace hW := wfP_i hW ⟨hi83, hp83⟩
                      obtain ⟨v84, ev84, fv84⟩ := inc_ex a32_3_16 (1) (1 : Int32) (by decide)
                      have rv84 : rg (1) (8) v84 := (rg_add ev84 q69 kc_1 rfl).1
                      have tv84 := (rg_add ev84 q69 kc_1 rfl).2
                      have yv84 : (1 : Int32).toInt = 1 := by decide
                      replace hW := (wfP_i (wfP_i (wfP_i (wfP_a hW v84) ev84) rv84) (w_iadd tv84 rfl (rg_i kc_1)))
                      refine lv_iinc (v := v84) (lv' := [(3, .int v84), (4, .ref (Z.ad 4 a32_3_16.toInt.toNat)), (0, .ref (Z.ad 11 i0)), (1, .int p1), (2, .int a15_2_6)]) hx hb dX11_tick_94 hl (k := 4) rfl fv84 (by decide) rfl (fun ls hl => ?_)
                      refine lv_goto (tgt := 32) hx hb dX11_tick_97 (by decide) ?_
                      exact ih17 _ (ms_up tv84 kc_1 q69 rfl rfl) v84 Z g83 _ _ ls _ _ (mFr.tr (mFr.tr (mFr.tr hF17 hp75.1 rfl) hp81.1 rfl) hp83.1 rfl) (mFi.sub (mFi.sub (mFi.sub hI17 hi75 (mSub_any 22 rfl (mSub_any 26 rfl (mSub_any 28 rfl (mSub_any 31 rfl (mSub_any 32 rfl (mSub_any 33 rfl (mSub_any 34 rfl (mSub_any 35 rfl (mSub_any 36 rfl (mSub_any 37 rfl (mSub_any 38 rfl (mSub_any 39 rfl (mSub_any 44 rfl (mSub_any 45 rfl (mSub_any 46 rfl (mSub_any 48 rfl (mSub_any 49 rfl (mSub_any 76 rfl (mSub_any 76 rfl (mSub_any 77 rfl (mSub_any 77 rfl (mSub_any 79 rfl (mSub_any 80 rfl (mSub_any 86 rfl (mSub_any 89 rfl (mSub_any 90 rfl (mSub_any 97 rfl (mSub_any 97 rfl (mSub_any 99 rfl (mSub_any 99 rfl mSub_nil))))))))))))))))))))))))))))))) hi81 (mSub_any 7 rfl (mSub_any 11 rfl (mSub_any 12 rfl (mSub_any 13 rfl (mSub_any 15 rfl (mSub_any 16 rfl (mSub_any 17 rfl (mSub_any 19 rfl (mSub_any 49 rfl (mSub_any 88 rfl (mSub_any 89 rfl mSub_nil)))))))))))) hi83 (mSub_any 22 rfl (mSub_any 26 rfl (mSub_any 28 rfl (mSub_any 31 rfl (mSub_any 32 rfl (mSub_any 35 rfl (mSub_any 40 rfl (mSub_any 43 rfl (mSub_any 44 rfl (mSub_any 45 rfl (mSub_any 46 rfl (mSub_any 48 rfl (mSub_any 49 rfl (mSub_any 79 rfl (mSub_any 80 rfl (mSub_any 86 rfl (mSub_any 96 rfl (mSub_any 97 rfl (mSub_any 98 rfl (mSub_any 99 rfl mSub_nil))))))))))))))))))))) xa (cL.mono L83 (by omega)) hzl hcs (cJ_fr hp81.2.1 hp83.1 rfl) (rg_w rv84 rfl) hW (lv_sub hl [2, 3, 4, 0] rfl) rfl
                    · skip
                      replace hW := wfP_i (wfP_r hW) (i_ne c61_77 rfl (rg_i kc_0))
                      have ic61_77 : v76.toInt ≠ (0 : Int32).toInt := fun z => c61_77 (Int32.toInt_inj.mp z)
                      have y85 : (0 : Int32).toInt = 0 := by decide
                      have q86 : rg (1) (1) v76 := rg_neL c61_77 rv76 kc_0
                      have uq86 : (1 : Int) ≤ v76.toInt ∧ v76.toInt ≤ 1 := q86
                      refine lv_aload hx hb dX11_tick_64 (lv_at hl 0 rfl) ?_
                      refine lv_aload_n hx hb dX11_tick_66 rfl (lv_at hl 1 rfl) ?_
                      refine c_geti x L75 11 i0 10 362 al18 rfl rfl (wk_in kf_X11_82) dX11_tick_67 (fun v87 ev87 wv87 => ?_)
                      refine m_top (((mm_fr ev74 hp75.1 rfl)).trans ev87.symm) ?_
                      refine c_cvU (n := 1) (owner := "CellSwitch$Side") (x0 := ⟨"CellSwitch$Side", "allOver", "(I)V"⟩) (As := [.int v74]) (rest := []) x hml L75 4 a32_3_16.toInt.toNat al71 rfl (d_kallOver_4 l (X + (16960 * a15_2_6.toInt)) g75 a32_3_16.toInt.toNat v74 ⟨by omega, by omega⟩ (cJ_fr hJ17 hp75.1 rfl) (show a32_3_16.toInt.toNat < Z.n from (by omega)) hW) (wk_U kd_X8_allOver kl_X11_93 km_CellSwitchSide_CellSwitchSide_allOver ks_X4_CellSwitchSide_X8_allOver ki_X8_allOver kn_X8) rfl ⟨rfl, rfl⟩ rfl (by decide +kernel) ⟨Nat.le_of_ble_eq_true rfl, Nat.le_of_ble_eq_true rfl⟩ rfl hl.1 rfl (lv_room (Nat.le_of_ble_eq_true rfl)) dX11_tick_70 (fun  g88 H88 k88 hp88 L88 => ?_) hcs
                      obtain ⟨hW, hi88, hp88⟩ := hp88
                      replace hW := wfP_i hW ⟨hi88, hp88⟩
                      refine lv_aload hx hb dX11_tick_73 (lv_at hl 0 rfl) ?_
                      refine lv_aload_n hx hb dX11_tick_75 rfl (lv_at hl 1 rfl) ?_
                      refine c_geti x L88 11 i0 10 362 al18 rfl rfl (wk_in kf_X11_82) dX11_tick_76 (fun v89 ev89 wv89 => ?_)
                      refine m_top (((mm_fr (mm_fr ev74 hp75.1 rfl) hp88.1 rfl)).trans ev89.symm) ?_
                      refine c_cvU (n := 1) (owner := "CellSwitch$Side") (x0 := ⟨"CellSwitch$Side", "callTimers", "(I)V"⟩) (As := [.int v74]) (rest := []) x hml L88 4 a32_3_16.toInt.toNat al71 rfl (d_kcallTimers_4 l (X + (16960 * a15_2_6.toInt)) g88 a32_3_16.toInt.toNat v74 ⟨by omega, by omega⟩ hp88.2.1 (show a32_3_16.toInt.toNat < Z.n from (by omega)) hW) (wk_U kd_X8_callTimers kl_X11_96 km_CellSwitchSide_CellSwitchSide_callTimers ks_X4_CellSwitchSide_X8_callTimers ki_X8_callTimers kn_X8) rfl ⟨rfl, rfl⟩ rfl (by decide +kernel) ⟨Nat.le_of_ble_eq_true rfl, Nat.le_of_ble_eq_true rfl⟩ rfl hl.1 rfl (lv_room (Nat.le_of_ble_eq_true rfl)) dX11_tick_79 (fun  g90 H90 k90 hp90 L90 => ?_) hcs
                      obtain ⟨hW, hi90, hp90⟩ := hp90
                      replace hW := wfP_i hW ⟨hi90, hp90⟩
                      refine lv_aload hx hb dX11_tick_82 (lv_at hl 0 rfl) ?_
                      refine c_getr (a := Z.ad 5 a32_3_16.toInt.toNat) x L90 4 a32_3_16.toInt.toNat 1 al71 rfl rfl (wk_in kf_X11_85) dX11_tick_84 ?_
                      refine lv_aload_n hx hb dX11_tick_87 rfl (lv_at hl 1 rfl) ?_
                      refine c_geti x L90 11 i0 10 362 al18 rfl rfl (wk_in kf_X11_82) dX11_tick_88 (fun v91 ev91 wv91 => ?_)
                      refine m_top (((mm_fr (mm_fr (mm_fr ev74 hp75.1 rfl) hp88.1 rfl) hp90.1 rfl)).trans ev91.symm) ?_
                      refine c_cv (As := [.int v74]) (rest := []) x hml L90 5 a32_3_16.toInt.toNat al73 rfl (d_kturn l (X + (16960 * a15_2_6.toInt)) g90 a32_3_16.toInt.toNat v74 ⟨by omega, by omega⟩ (show a32_3_16.toInt.toNat < 2 * Z.n from (by omega)) hW) (wk_V kd_X5_turn kl_X11_99 ki_X5_turn ks_X5_X5_turn kn_X5) rfl ⟨rfl, rfl⟩ hd_kturn ⟨Nat.le_of_ble_eq_true rfl, Nat.le_of_ble_eq_true rfl⟩ rfl hl.1 rfl (lv_room (Nat.le_of_ble_eq_true rfl)) dX11_tick_91 (fun  g92 H92 k92 hp92 L92 => ?_) hcs
                      obtain ⟨hW, hi92, hp92⟩ := hp92
                      replace hW := wfP_i hW ⟨hi92, hp92⟩
                      obtain ⟨v93, ev93, fv93⟩ := inc_ex a32_3_16 (1) (1 : Int32) (by decide)
                      have rv93 : rg (1) (8) v93 := (rg_add ev93 q69 kc_1 rfl).1
                      have tv93 := (rg_add ev93 q69 kc_1 rfl).2
                      have yv93 : (1 : Int32).toInt = 1 := by decide
                      replace hW := (wfP_i (wfP_i (wfP_i (wfP_a hW v93) ev93) rv93) (w_iadd tv93 rfl (rg_i kc_1)))
                      refine lv_iinc (v := v93) (lv' := [(3, .int v93), (4, .ref (Z.ad 4 a32_3_16.toInt.toNat)), (0, .ref (Z.ad 11 i0)), (1, .int p1), (2, .int a15_2_6)]) hx hb dX11_tick_94 hl (k := 4) rfl fv93 (by decide) rfl (fun ls hl => ?_)
                      refine lv_goto (tgt := 32) hx hb dX11_tick_97 (by decide) ?_
                      exact ih17 _ (ms_up tv93 kc_1 q69 rfl rfl) v93 Z g92 _ _ ls _ _ (mFr.tr (mFr.tr (mFr.tr (mFr.tr hF17 hp75.1 rfl) hp88.1 rfl) hp90.1 rfl) hp92.1 rfl) (mFi.sub (mFi.sub (mFi.sub (mFi.sub hI17 hi75 (mSub_any 22 rfl (mSub_any 26 rfl (mSub_any 28 rfl (mSub_any 31 rfl (mSub_any 32 rfl (mSub_any 33 rfl (mSub_any 34 rfl (mSub_any 35 rfl (mSub_any 36 rfl (mSub_any 37 rfl (mSub_any 38 rfl (mSub_any 39 rfl (mSub_any 44 rfl (mSub_any 45 rfl (mSub_any 46 rfl (mSub_any 48 rfl (mSub_any 49 rfl (mSub_any 76 rfl (mSub_any 76 rfl (mSub_any 77 rfl (mSub_any 77 rfl (mSub_any 79 rfl (mSub_any 80 rfl (mSub_any 86 rfl (mSub_any 89 rfl (mSub_any 90 rfl (mSub_any 97 rfl (mSub_any 97 rfl (mSub_any 99 rfl (mSub_any 99 rfl mSub_nil))))))))))))))))))))))))))))))) hi88 (mSub_any 7 rfl (mSub_any 11 rfl (mSub_any 12 rfl (mSub_any 13 rfl (mSub_any 15 rfl (mSub_any 16 rfl (mSub_any 17 rfl (mSub_any 19 rfl (mSub_any 49 rfl (mSub_any 88 rfl (mSub_any 89 rfl mSub_nil)))))))))))) hi90 (mSub_any 7 rfl (mSub_any 11 rfl (mSub_any 12 rfl (mSub_any 13 rfl (mSub_any 15 rfl (mSub_any 16 rfl (mSub_any 17 rfl (mSub_any 19 rfl (mSub_any 49 rfl (mSub_any 88 rfl (mSub_any 89 rfl mSub_nil)))))))))))) hi92 (mSub_any 22 rfl (mSub_any 26 rfl (mSub_any 28 rfl (mSub_any 31 rfl (mSub_any 32 rfl (mSub_any 35 rfl (mSub_any 40 rfl (mSub_any 43 rfl (mSub_any 44 rfl (mSub_any 45 rfl (mSub_any 46 rfl (mSub_any 48 rfl (mSub_any 49 rfl (mSub_any 79 rfl (mSub_any 80 rfl (mSub_any 86 rfl (mSub_any 96 rfl (mSub_any 97 rfl (mSub_any 98 rfl (mSub_any 99 rfl mSub_nil))))))))))))))))))))) xa (cL.mono L92 (by omega)) hzl hcs (cJ_fr hp90.2.1 hp92.1 rfl) (rg_w rv93 rfl) hW (lv_sub hl [2, 3, 4, 0] rfl) rfl
                  · skip
                    replace hW := wfP_i (wfP_r hW) hc70
                    have al72 : Z.al 10 (a32_3_16.toInt.toNat - Z.n) := hz.2 10 (a32_3_16.toInt.toNat - Z.n) (show (a32_3_16.toInt.toNat - Z.n) < Z.n from (by omega))
                    refine c_ldr (a := Z.ad 10 (a32_3_16.toInt.toNat - Z.n)) x L17 52 0 al19 rfl (by omega) (show a32_3_16.toInt < (((2 * Z.n) : Nat) : Int) from (by omega)) (by show some (cSd Z a32_3_16.toInt.toNat) = _; unfold cSd; rw [if_neg (Nat.not_lt.mpr hc70)]) dX11_tick_46 ?_
                    obtain ⟨sx94, hsx94⟩ : ∃ y : Nat, y = (a32_3_16.toInt.toNat - Z.n) := ⟨_, rfl⟩
                    rw [← hsx94]
                    replace hW := (wfP_i (wfP_a hW sx94) hsx94)
                    have al95 : Z.al 10 sx94 := hz.2 10 sx94 (show sx94 < Z.n from (by omega))
                    refine lv_astore (lv' := [(4, .ref (Z.ad 10 sx94)), (0, .ref (Z.ad 11 i0)), (1, .int p1), (2, .int a15_2_6), (3, .int a32_3_16)]) hx hb dX11_tick_47 hl (by decide) rfl (fun ls hl => ?_)
                    refine lv_aload hx hb dX11_tick_49 (lv_at hl 0 rfl) ?_
                    have al96 : Z.al 5 (Z.n + sx94) := hz.2 5 (Z.n + sx94) (show (Z.n + sx94) < 2 * Z.n from (by omega))
                    refine c_getr (a := Z.ad 5 (Z.n + sx94)) x L17 10 sx94 1 al95 rfl rfl (wk_in kf_X11_85) dX11_tick_51 ?_
                    refine lv_aload_n hx hb dX11_tick_54 rfl (lv_at hl 1 rfl) ?_
                    refine c_geti x L17 11 i0 10 362 al18 rfl rfl (wk_in kf_X11_82) dX11_tick_55 (fun v97 ev97 wv97 => ?_)
                    have rv97 : rg (-2147483648) (2147483647) v97 := rg_any v97
                    replace hW := (wfP_i (wfP_i (wfP_a hW v97) ev97) rv97)
                    have uv97 : (-2147483648 : Int) ≤ v97.toInt ∧ v97.toInt ≤ 2147483647 := rv97
                    refine c_ci (As := [.int v97]) (rest := []) x hml L17 5 (Z.n + sx94) al96 rfl (d_ktimers l (X + (16960 * a15_2_6.toInt)) g17 (Z.n + sx94) v97 ⟨by omega, by omega⟩ (show (Z.n + sx94) < 2 * Z.n from (by omega)) hW) (wk_V kd_X5_timers kl_X11_89 ki_X5_timers ks_X5_X5_timers kn_X5) rfl ⟨rfl, rfl⟩ hd_ktimers ⟨Nat.le_of_ble_eq_true rfl, Nat.le_of_ble_eq_true rfl⟩ rfl hl.1 rfl (lv_room (Nat.le_of_ble_eq_true rfl)) dX11_tick_58 (fun v99 g98 H98 k98 hp98 L98 => ?_) hcs
                    obtain ⟨hW, hi98, hp98⟩ := hp98
                    replace hW := wfP_i hW ⟨hi98, hp98⟩
                    have rv99 : rg (0) (1) v99 := hp98.2.1
                    have uv99 : (0 : Int) ≤ v99.toInt ∧ v99.toInt ≤ 1 := rv99
                    refine lv_if_eq (tgt := 73) hx hb dX11_tick_61 (by decide) (fun c61_100 => ?_) (fun c61_100 => ?_)
                    · skip
                      replace hW := wfP_i (wfP_l hW) (i_eq c61_100 rfl (rg_i kc_0))
                      have ic61_100 := congrArg Int32.toInt c61_100
                      have y101 : (0 : Int32).toInt = 0 := by decide
                      have q102 : rg (0) (0) v99 := (rg_eq c61_100 rv99 kc_0).1
                      have uq102 : (0 : Int) ≤ v99.toInt ∧ v99.toInt ≤ 0 := q102
                      refine lv_aload hx hb dX11_tick_73 (lv_at hl 0 rfl) ?_
                      refine lv_aload_n hx hb dX11_tick_75 rfl (lv_at hl 1 rfl) ?_
                      refine c_geti x L98 11 i0 10 362 al18 rfl rfl (wk_in kf_X11_82) dX11_tick_76 (fun v103 ev103 wv103 => ?_)
                      refine m_top (((mm_fr ev97 hp98.1 rfl)).trans ev103.symm) ?_
                      refine c_cvU (n := 1) (owner := "CellSwitch$Side") (x0 := ⟨"CellSwitch$Side", "callTimers", "(I)V"⟩) (As := [.int v97]) (rest := []) x hml L98 10 sx94 al95 rfl (d_kcallTimers_10 l (X + (16960 * a15_2_6.toInt)) g98 sx94 v97 ⟨by omega, by omega⟩ (cJ_fr hJ17 hp98.1 rfl) (show sx94 < Z.n from (by omega)) hW) (wk_U kd_X8_callTimers kl_X11_96 km_CellSwitchSide_CellSwitchSide_callTimers ks_X10_CellSwitchSide_X8_callTimers ki_X8_callTimers kn_X8) rfl ⟨rfl, rfl⟩ rfl (by decide +kernel) ⟨Nat.le_of_ble_eq_true rfl, Nat.le_of_ble_eq_true rfl⟩ rfl hl.1 rfl (lv_room (Nat.le_of_ble_eq_true rfl)) dX11_tick_79 (fun  g104 H104 k104 hp104 L104 => ?_) hcs
                      obtain ⟨hW, hi104, hp104⟩ := hp104
                      replace hW := wfP_i hW ⟨hi104, hp104⟩
                      refine lv_aload hx hb dX11_tick_82 (lv_at hl 0 rfl) ?_
                      refine c_getr (a := Z.ad 5 (Z.n + sx94)) x L104 10 sx94 1 al95 rfl rfl (wk_in kf_X11_85) dX11_tick_84 ?_
                      refine lv_aload_n hx hb dX11_tick_87 rfl (lv_at hl 1 rfl) ?_
                      refine c_geti x L104 11 i0 10 362 al18 rfl rfl (wk_in kf_X11_82) dX11_tick_88 (fun v105 ev105 wv105 => ?_)
                      refine m_top (((mm_fr (mm_fr ev97 hp98.1 rfl) hp104.1 rfl)).trans ev105.symm) ?_
                      refine c_cv (As := [.int v97]) (rest := []) x hml L104 5 (Z.n + sx94) al96 rfl (d_kturn l (X + (16960 * a15_2_6.toInt)) g104 (Z.n + sx94) v97 ⟨by omega, by omega⟩ (show (Z.n + sx94) < 2 * Z.n from (by omega)) hW) (wk_V kd_X5_turn kl_X11_99 ki_X5_turn ks_X5_X5_turn kn_X5) rfl ⟨rfl, rfl⟩ hd_kturn ⟨Nat.le_of_ble_eq_true rfl, Nat.le_of_ble_eq_true rfl⟩ rfl hl.1 rfl (lv_room (Nat.le_of_ble_eq_true rfl)) dX11_tick_91 (fun  g106 H106 k106 hp106 L106 => ?_) hcs
                      obtain ⟨hW, hi106, hp106⟩ := hp106
                      replace hW := wfP_i hW ⟨hi106, hp106⟩
                      obtain ⟨v107, ev107, fv107⟩ := inc_ex a32_3_16 (1) (1 : Int32) (by decide)
                      have rv107 : rg (1) (8) v107 := (rg_add ev107 q69 kc_1 rfl).1
                      have tv107 := (rg_add ev107 q69 kc_1 rfl).2
                      have yv107 : (1 : Int32).toInt = 1 := by decide
                      replace hW := (wfP_i (wfP_i (wfP_i (wfP_a hW v107) ev107) rv107) (w_iadd tv107 rfl (rg_i kc_1)))
                      refine lv_iinc (v := v107) (lv' := [(3, .int v107), (4, .ref (Z.ad 10 sx94)), (0, .ref (Z.ad 11 i0)), (1, .int p1), (2, .int a15_2_6)]) hx hb dX11_tick_94 hl (k := 4) rfl fv107 (by decide) rfl (fun ls hl => ?_)
                      refine lv_goto (tgt := 32) hx hb dX11_tick_97 (by decide) ?_
                      exact ih17 _ (ms_up tv107 kc_1 q69 rfl rfl) v107 Z g106 _ _ ls _ _ (mFr.tr (mFr.tr (mFr.tr hF17 hp98.1 rfl) hp104.1 rfl) hp106.1 rfl) (mFi.sub (mFi.sub (mFi.sub hI17 hi98 (mSub_any 22 rfl (mSub_any 26 rfl (mSub_any 28 rfl (mSub_any 31 rfl (mSub_any 32 rfl (mSub_any 33 rfl (mSub_any 34 rfl (mSub_any 35 rfl (mSub_any 36 rfl (mSub_any 37 rfl (mSub_any 38 rfl (mSub_any 39 rfl (mSub_any 44 rfl (mSub_any 45 rfl (mSub_any 46 rfl (mSub_any 48 rfl (mSub_any 49 rfl (mSub_any 76 rfl (mSub_any 76 rfl (mSub_any 77 rfl (mSub_any 77 rfl (mSub_any 79 rfl (mSub_any 80 rfl (mSub_any 86 rfl (mSub_any 89 rfl (mSub_any 90 rfl (mSub_any 97 rfl (mSub_any 97 rfl (mSub_any 99 rfl (mSub_any 99 rfl mSub_nil))))))))))))))))))))))))))))))) hi104 (mSub_any 7 rfl (mSub_any 11 rfl (mSub_any 12 rfl (mSub_any 13 rfl (mSub_any 15 rfl (mSub_any 16 rfl (mSub_any 17 rfl (mSub_any 19 rfl (mSub_any 49 rfl (mSub_any 88 rfl (mSub_any 89 rfl mSub_nil)))))))))))) hi106 (mSub_any 22 rfl (mSub_any 26 rfl (mSub_any 28 rfl (mSub_any 31 rfl (mSub_any 32 rfl (mSub_any 35 rfl (mSub_any 40 rfl (mSub_any 43 rfl (mSub_any 44 rfl (mSub_any 45 rfl (mSub_any 46 rfl (mSub_any 48 rfl (mSub_any 49 rfl (mSub_any 79 rfl (mSub_any 80 rfl (mSub_any 86 rfl (mSub_any 96 rfl (mSub_any 97 rfl (mSub_any 98 rfl (mSub_any 99 rfl mSub_nil))))))))))))))))))))) xa (cL.mono L106 (by omega)) hzl hcs (cJ_fr hp104.2.1 hp106.1 rfl) (rg_w rv107 rfl) hW (lv_sub hl [2, 3, 4, 0] rfl) rfl
                    · skip
                      replace hW := wfP_i (wfP_r hW) (i_ne c61_100 rfl (rg_i kc_0))
                      have ic61_100 : v99.toInt ≠ (0 : Int32).toInt := fun z => c61_100 (Int32.toInt_inj.mp z)
                      have y108 : (0 : Int32).toInt = 0 := by decide
                      have q109 : rg (1) (1) v99 := rg_neL c61_100 rv99 kc_0
                      have uq109 : (1 : Int) ≤ v99.toInt ∧ v99.toInt ≤ 1 := q109
                      refine lv_aload hx hb dX11_tick_64 (lv_at hl 0 rfl) ?_
                      refine lv_aload_n hx hb dX11_tick_66 rfl (lv_at hl 1 rfl) ?_
                      refine c_geti x L98 11 i0 10 362 al18 rfl rfl (wk_in kf_X11_82) dX11_tick_67 (fun v110 ev110 wv110 => ?_)
                      refine m_top (((mm_fr ev97 hp98.1 rfl)).trans ev110.symm) ?_
                      refine c_cvU (n := 1) (owner := "CellSwitch$Side") (x0 := ⟨"CellSwitch$Side", "allOver", "(I)V"⟩) (As := [.int v97]) (rest := []) x hml L98 10 sx94 al95 rfl (d_kallOver_10 l (X + (16960 * a15_2_6.toInt)) g98 sx94 v97 ⟨by omega, by omega⟩ (cJ_fr hJ17 hp98.1 rfl) (show sx94 < Z.n from (by omega)) hW) (wk_U kd_X8_allOver kl_X11_93 km_CellSwitchSide_CellSwitchSide_allOver ks_X10_CellSwitchSide_X8_allOver ki_X8_allOver kn_X8) rfl ⟨rfl, rfl⟩ rfl (by decide +kernel) ⟨Nat.le_of_ble_eq_true rfl, Nat.le_of_ble_eq_true rfl⟩ rfl hl.1 rfl (lv_room (Nat.le_of_ble_eq_true rfl)) dX11_tick_70 (fun  g111 H111 k111 hp111 L111 => ?_) hcs
                      obtain ⟨hW, hi111, hp111⟩ := hp111
                      replace hW := wfP_i hW ⟨hi111, hp111⟩
                      refine lv_aload hx hb dX11_tick_73 (lv_at hl 0 rfl) ?_
                      refine lv_aload_n hx hb dX11_tick_75 rfl (lv_at hl 1 rfl) ?_
                      refine c_geti x L111 11 i0 10 362 al18 rfl rfl (wk_in kf_X11_82) dX11_tick_76 (fun v112 ev112 wv112 => ?_)
                      refine m_top (((mm_fr (mm_fr ev97 hp98.1 rfl) hp111.1 rfl)).trans ev112.symm) ?_
                      refine c_cvU (n := 1) (owner := "CellSwitch$Side") (x0 := ⟨"CellSwitch$Side", "callTimers", "(I)V"⟩) (As := [.int v97]) (rest := []) x hml L111 10 sx94 al95 rfl (d_kcallTimers_10 l (X + (16960 * a15_2_6.toInt)) g111 sx94 v97 ⟨by omega, by omega⟩ hp111.2.1 (show sx94 < Z.n from (by omega)) hW) (wk_U kd_X8_callTimers kl_X11_96 km_CellSwitchSide_CellSwitchSide_callTimers ks_X10_CellSwitchSide_X8_callTimers ki_X8_callTimers kn_X8) rfl ⟨rfl, rfl⟩ rfl (by decide +kernel) ⟨Nat.le_of_ble_eq_true rfl, Nat.le_of_ble_eq_true rfl⟩ rfl hl.1 rfl (lv_room (Nat.le_of_ble_eq_true rfl)) dX11_tick_79 (fun  g113 H113 k113 hp113 L113 => ?_) hcs
                      obtain ⟨hW, hi113, hp113⟩ := hp113
                      replace hW := wfP_i hW ⟨hi113, hp113⟩
                      refine lv_aload hx hb dX11_tick_82 (lv_at hl 0 rfl) ?_
                      refine c_getr (a := Z.ad 5 (Z.n + sx94)) x L113 10 sx94 1 al95 rfl rfl (wk_in kf_X11_85) dX11_tick_84 ?_
                      refine lv_aload_n hx hb dX11_tick_87 rfl (lv_at hl 1 rfl) ?_
                      refine c_geti x L113 11 i0 10 362 al18 rfl rfl (wk_in kf_X11_82) dX11_tick_88 (fun v114 ev114 wv114 => ?_)
                      refine m_top (((mm_fr (mm_fr (mm_fr ev97 hp98.1 rfl) hp111.1 rfl) hp113.1 rfl)).trans ev114.symm) ?_
                      refine c_cv (As := [.int v97]) (rest := []) x hml L113 5 (Z.n + sx94) al96 rfl (d_kturn l (X + (16960 * a15_2_6.toInt)) g113 (Z.n + sx94) v97 ⟨by omega, by omega⟩ (show (Z.n + sx94) < 2 * Z.n from (by omega)) hW) (wk_V kd_X5_turn kl_X11_99 ki_X5_turn ks_X5_X5_turn kn_X5) rfl ⟨rfl, rfl⟩ hd_kturn ⟨Nat.le_of_ble_eq_true rfl, Nat.le_of_ble_eq_true rfl⟩ rfl hl.1 rfl (lv_room (Nat.le_of_ble_eq_true rfl)) dX11_tick_91 (fun  g115 H115 k115 hp115 L115 => ?_) hcs
                      obtain ⟨hW, hi115, hp115⟩ := hp115
                      replace hW := wfP_i hW ⟨hi115, hp115⟩
                      obtain ⟨v116, ev116, fv116⟩ := inc_ex a32_3_16 (1) (1 : Int32) (by decide)
                      have rv116 : rg (1) (8) v116 := (rg_add ev116 q69 kc_1 rfl).1
                      have tv116 := (rg_add ev116 q69 kc_1 rfl).2
                      have yv116 : (1 : Int32).toInt = 1 := by decide
                      replace hW := (wfP_i (wfP_i (wfP_i (wfP_a hW v116) ev116) rv116) (w_iadd tv116 rfl (rg_i kc_1)))
                      refine lv_iinc (v := v116) (lv' := [(3, .int v116), (4, .ref (Z.ad 10 sx94)), (0, .ref (Z.ad 11 i0)), (1, .int p1), (2, .int a15_2_6)]) hx hb dX11_tick_94 hl (k := 4) rfl fv116 (by decide) rfl (fun ls hl => ?_)
                      refine lv_goto (tgt := 32) hx hb dX11_tick_97 (by decide) ?_
                      exact ih17 _ (ms_up tv116 kc_1 q69 rfl rfl) v116 Z g115 _ _ ls _ _ (mFr.tr (mFr.tr (mFr.tr (mFr.tr hF17 hp98.1 rfl) hp111.1 rfl) hp113.1 rfl) hp115.1 rfl) (mFi.sub (mFi.sub (mFi.sub (mFi.sub hI17 hi98 (mSub_any 22 rfl (mSub_any 26 rfl (mSub_any 28 rfl (mSub_any 31 rfl (mSub_any 32 rfl (mSub_any 33 rfl (mSub_any 34 rfl (mSub_any 35 rfl (mSub_any 36 rfl (mSub_any 37 rfl (mSub_any 38 rfl (mSub_any 39 rfl (mSub_any 44 rfl (mSub_any 45 rfl (mSub_any 46 rfl (mSub_any 48 rfl (mSub_any 49 rfl (mSub_any 76 rfl (mSub_any 76 rfl (mSub_any 77 rfl (mSub_any 77 rfl (mSub_any 79 rfl (mSub_any 80 rfl (mSub_any 86 rfl (mSub_any 89 rfl (mSub_any 90 rfl (mSub_any 97 rfl (mSub_any 97 rfl (mSub_any 99 rfl (mSub_any 99 rfl mSub_nil))))))))))))))))))))))))))))))) hi111 (mSub_any 7 rfl (mSub_any 11 rfl (mSub_any 12 rfl (mSub_any 13 rfl (mSub_any 15 rfl (mSub_any 16 rfl (mSub_any 17 rfl (mSub_any 19 rfl (mSub_any 49 rfl (mSub_any 88 rfl (mSub_any 89 rfl mSub_nil)))))))))))) hi113 (mSub_any 7 rfl (mSub_any 11 rfl (mSub_any 12 rfl (mSub_any 13 rfl (mSub_any 15 rfl (mSub_any 16 rfl (mSub_any 17 rfl (mSub_any 19 rfl (mSub_any 49 rfl (mSub_any 88 rfl (mSub_any 89 rfl mSub_nil)))))))))))) hi115 (mSub_any 22 rfl (mSub_any 26 rfl (mSub_any 28 rfl (mSub_any 31 rfl (mSub_any 32 rfl (mSub_any 35 rfl (mSub_any 40 rfl (mSub_any 43 rfl (mSub_any 44 rfl (mSub_any 45 rfl (mSub_any 46 rfl (mSub_any 48 rfl (mSub_any 49 rfl (mSub_any 79 rfl (mSub_any 80 rfl (mSub_any 86 rfl (mSub_any 96 rfl (mSub_any 97 rfl (mSub_any 98 rfl (mSub_any 99 rfl mSub_nil))))))))))))))))))))) xa (cL.mono L115 (by omega)) hzl hcs (cJ_fr hp113.2.1 hp115.1 rfl) (rg_w rv116 rfl) hW (lv_sub hl [2, 3, 4, 0] rfl) rfl
            have y117 : (0 : Int32).toInt = 0 := by decide
            exact j32_17 _ (0 : Int32) Z g15 _ _ ls _ _ mFr.rf mFi.rf xa (cL.mono L15 (by omega)) hzl hcs (cJ_up hJ7 eg15 rfl) (rg_w kc_0 rfl) hW (lv_sub hl [1, 2, 3, 0] rfl) rfl
      have y118 : (0 : Int32).toInt = 0 := by decide
      exact j15_7 _ (0 : Int32) Z g _ _ ls _ _ mFr.rf mFi.rf xa (cL.mono L (by omega)) hzl hcs hJ (rg_w kc_0 rfl) hW (lv_sub hl [1, 2, 0] rfl) rfl
    · skip
      replace hW := wfP_i (wfP_r hW) (i_lt (rg_nle c8_4) (rg_i kc_50) rfl)
      have ic8_4 := Int32.lt_iff_toInt_lt.mp (rg_nle c8_4)
      have q119 : rg (51) (2147483647) p1 := (rg_lt (rg_nle c8_4) kc_50 q3).2
      have uq119 : (51 : Int) ≤ p1.toInt ∧ p1.toInt ≤ 2147483647 := q119
      refine lv_iconst (v := (-1)) hx hb dX11_tick_11 (by decide) ?_
      exact hQ _ _ (-1 : Int32) Z _ _ _ _ _ dX11_tick_12 xa (cL.mono L (by omega)) hzl hcs ⟨hW, mFi.rf, mFr.rf, rg_w kc_m1 rfl, hJ, trivial⟩
theorem d_ktick (l : Launch) {G : cG} {Z : cZ} (X : Int) (g : mSt) (i0 : Nat) (p1 : Int32) (sz a b TC TS : Nat) (hX : 0 ≤ X ∧ (X + 848000) ≤ 2000000000) (hJ : cJ Z g) (hTC : Z.w 0 + a = TC) (hTS : Z.w 1 + b = TS) (hal0 : Z.al 11 i0) {Φ : Int32 → cZ → mSt → Prop} (hW : wfP (wp_ktick TC TS Z i0 p1 g Φ)) : Met l yX11_tick (wk (Cond.code yX11_tick cX11_tick 5 (some .int))) (rm_ktick a b) (va_Pc [.ref (Z.ad 11 i0), .int p1] (cPreA G Z X g sz)) (kE a b (cAf Z sz) (cQiA G Z (X + 848000) (fun r Z1 g1 => wfP (Φ r Z1 g1) ∧ mFi (im_ktick i0 p1) g g1 ∧ (mFr [0, 1, 2, 32, 33, 34, 35, 36, 37, 38, 39, 40, 41, 42, 43, 44, 45, 46, 47, 48, 49, 66, 67, 101, 106, 107, 108, 109, 111, 135, 136, 164, 165, 166, 167, 168, 169, 170, 171, 172, 173, 174, 175, 176, 177, 178, 179, 180, 197, 198, 225, 226, 227, 228, 229, 230, 231, 232, 233, 234, 235, 288, 289, 290, 291, 292, 293, 294, 295, 296, 323, 362, 363, 384, 385, 386, 421, 422, 512, 544, 576, 608, 640, 672, 704, 736, 768, 800, 832, 864, 928, 960, 992, 1024, 1056, 1088, 1248, 1280, 1312, 1344, 1536, 1728, 1729] g g1 ∧ rg (-2147483648) (2147483647) r ∧ cJ Z1 g1 ∧ True)))) a b (cAf Z sz) := by
  refine Met.ofW (cc := cX11_tick) (maxL := 5) (ret := (some .int)) (by decide) rfl ?_
  intro p e s m args below meth c s₁ B hml hv
  obtain ⟨hav, hv⟩ := hv
  have hsz0 := hv.2.1
  subst hsz0
  have hr := B.returns
  have hlocks := B.notSynchronized
  obtain ⟨xa, L⟩ := k_start B rfl (fun w h => wk_in h) hv
  have hent : entryFrame m args 5 = entryFrame m ([.ref (Z.ad 11 i0), .int p1] : List Value).toArray 5 := by rw [hav]
  rw [hent]
  have hl := lv_entry ([.ref (Z.ad 11 i0), .int p1]) (n := 5) (Nat.le_of_ble_eq_true rfl)
  rw [lg_entry_eq]
  generalize (lg_sl ([.ref (Z.ad 11 i0), .int p1]) ++ List.replicate (5 - (lg_sl ([.ref (Z.ad 11 i0), .int p1])).length) Slot.unset).toArray = ls at hl ⊢
  have hl : lv_has ls 5 [(0, .ref (Z.ad 11 i0)), (1, .int p1)] := hl
  exact v_ktick xa hml L hTC hTS hX i0 p1 hJ hal0 hW hl (fun pc' ls' r Z1 g1 H1 locs1 c1 l1 hdg xa L hz hcs hp => k_iret xa L hr hlocks (Int.le_refl _) hz hp hcs.1 hcs.2 hdg)
